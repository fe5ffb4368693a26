/-! words: one list for all methods; the words of the nest apart -/
def lw_all : List Cond := lw_tbl.filter goodWord
theorem lw_all_sub {w : Cond} (h : w ∈ lw_all) : w ∈ lw_tbl := (List.mem_filter.mp h).1
theorem lw_all_good {w : Cond} (h : w ∈ lw_all) : (w.onTables && w.keeps) = true ∨ ∃ ty, w = .arrayClass ty := good_of_word (List.mem_filter.mp h).2
theorem lw_in {w : Cond} (i : Nat) (h : tables_1[i]? = some w) (hg : goodWord w = true) : w ∈ lw_all := List.mem_filter.mpr ⟨List.mem_append_right _ (List.mem_of_getElem? h), hg⟩
theorem lw_inS {q : MethodName × Nat} (i : Nat) (h : lw_privs[i]? = some q) (hg : goodWord (Cond.selects q.1.cls q.1 q.1) = true) : Cond.selects q.1.cls q.1 q.1 ∈ lw_all :=
  List.mem_filter.mpr ⟨List.mem_append_left _ (List.mem_map.mpr ⟨q, List.mem_of_getElem? h, rfl⟩), hg⟩
def lw_isNest : Cond → Bool
  | .fieldLinkNest .. => true
  | .methodLinkNest .. => true
  | _ => false
def lw_nest : List Cond := tables_1.filter lw_isNest
theorem lw_inN {w : Cond} (i : Nat) (h : tables_1[i]? = some w) (hg : lw_isNest w = true) : w ∈ lw_nest := List.mem_filter.mpr ⟨List.mem_of_getElem? h, hg⟩
theorem qw0 : (Jvm.Cond.initialized "ScoreHandlesLaw") ∈ lw_all := lw_in 0 (by decide +kernel) rfl
theorem qw1 : (Jvm.Cond.initialized "ScoreHandles") ∈ lw_all := lw_in 1 (by decide +kernel) rfl
theorem qw2 : (Jvm.Cond.initialized "ScoreHandles$Rows") ∈ lw_all := lw_in 2 (by decide +kernel) rfl
theorem qw3 : (Jvm.Cond.initialized "ScoreHandles$Handles") ∈ lw_all := lw_in 3 (by decide +kernel) rfl
theorem qw4 : (Jvm.Cond.initialized "ScoreHandles$Maker") ∈ lw_all := lw_in 4 (by decide +kernel) rfl
theorem qw5 : (Jvm.Cond.initialized "ScoreHandles$Runner") ∈ lw_all := lw_in 5 (by decide +kernel) rfl
theorem qw6 : (Jvm.Cond.initialized "ScoreHandles$Type") ∈ lw_all := lw_in 6 (by decide +kernel) rfl
theorem qw7 : (Jvm.Cond.initialized "ScoreHandlesModel") ∈ lw_all := lw_in 7 (by decide +kernel) rfl
theorem qw8 : (Jvm.Cond.initialized "ScoreHandles$Kind") ∈ lw_all := lw_in 8 (by decide +kernel) rfl
theorem qw9 : (Jvm.Cond.initialized "ScoreHandles$Row") ∈ lw_all := lw_in 9 (by decide +kernel) rfl
theorem qw10 : (Jvm.Cond.initialized "java/lang/Math") ∈ lw_all := lw_in 10 (by decide +kernel) rfl
theorem qw11 : (Jvm.Cond.initialized "java/lang/Enum") ∈ lw_all := lw_in 11 (by decide +kernel) rfl
theorem qw12 : (Jvm.Cond.initialized "ScoreHandles$Real") ∈ lw_all := lw_in 12 (by decide +kernel) rfl
theorem qw13 : (Jvm.Cond.initialized "ScoreHandles$Handle") ∈ lw_all := lw_in 13 (by decide +kernel) rfl
theorem qw14 : (Jvm.Cond.initialized "ScoreHandles$Sort") ∈ lw_all := lw_in 14 (by decide +kernel) rfl
theorem qw15 : (Jvm.Cond.initialized "java/lang/Float") ∈ lw_all := lw_in 15 (by decide +kernel) rfl
theorem qw16 : (Jvm.Cond.initialized "java/lang/Double") ∈ lw_all := lw_in 16 (by decide +kernel) rfl
theorem qw17 : (Jvm.Cond.classLink "ScoreHandlesLaw" (7 : Nat) "ScoreHandles") ∈ lw_all := lw_in 17 (by decide +kernel) rfl
theorem qw18 : (Jvm.Cond.instantiable "ScoreHandles" (8 : Nat)) ∈ lw_all := lw_in 18 (by decide +kernel) rfl
theorem qw19 : (Jvm.Cond.methodLink "ScoreHandlesLaw" (9 : Nat) ({ cls := "ScoreHandles", name := "<init>", desc := "()V" } : Jvm.MethodName)) ∈ lw_all := lw_in 19 (by decide +kernel) rfl
theorem qw20 : (Jvm.Cond.instanceMethod ({ cls := "ScoreHandles", name := "<init>", desc := "()V" } : Jvm.MethodName)) ∈ lw_all := lw_in 20 (by decide +kernel) rfl
theorem qw21 : (Jvm.Cond.code ({ cls := "ScoreHandles", name := "<init>", desc := "()V" } : Jvm.MethodName) prog_1_method_1_code (3 : Nat) (Option.none : Option Jvm.ClassFile.FieldType)) ∈ lw_all := lw_in 21 (by decide +kernel) rfl
theorem qw22 : (Jvm.Cond.methodLink "ScoreHandles" (1 : Nat) ({ cls := "java/lang/Object", name := "<init>", desc := "()V" } : Jvm.MethodName)) ∈ lw_all := lw_in 22 (by decide +kernel) rfl
theorem qw23 : (Jvm.Cond.instanceMethod ({ cls := "java/lang/Object", name := "<init>", desc := "()V" } : Jvm.MethodName)) ∈ lw_all := lw_in 23 (by decide +kernel) rfl
theorem qw24 : (Jvm.Cond.code ({ cls := "java/lang/Object", name := "<init>", desc := "()V" } : Jvm.MethodName) object_method_1_code (1 : Nat) (Option.none : Option Jvm.ClassFile.FieldType)) ∈ lw_all := lw_in 24 (by decide +kernel) rfl
theorem qw25 : (Jvm.Cond.classLink "ScoreHandles" (7 : Nat) "ScoreHandles$Rows") ∈ lw_all := lw_in 25 (by decide +kernel) rfl
theorem qw26 : (Jvm.Cond.instantiable "ScoreHandles$Rows" (2 : Nat)) ∈ lw_all := lw_in 26 (by decide +kernel) rfl
theorem qn27 : (Jvm.Cond.methodLinkNest "ScoreHandles" (9 : Nat) ({ cls := "ScoreHandles$Rows", name := "<init>", desc := "()V" } : Jvm.MethodName) "ScoreHandles") ∈ lw_nest := lw_inN 27 (by decide +kernel) rfl
theorem qw28 : (Jvm.Cond.instanceMethod ({ cls := "ScoreHandles$Rows", name := "<init>", desc := "()V" } : Jvm.MethodName)) ∈ lw_all := lw_in 28 (by decide +kernel) rfl
theorem qw29 : (Jvm.Cond.code ({ cls := "ScoreHandles$Rows", name := "<init>", desc := "()V" } : Jvm.MethodName) prog_8_method_1_code (1 : Nat) (Option.none : Option Jvm.ClassFile.FieldType)) ∈ lw_all := lw_in 29 (by decide +kernel) rfl
theorem qw30 : (Jvm.Cond.methodLink "ScoreHandles$Rows" (3 : Nat) ({ cls := "java/lang/Object", name := "<init>", desc := "()V" } : Jvm.MethodName)) ∈ lw_all := lw_in 30 (by decide +kernel) rfl
theorem qw31 : (Jvm.Cond.classLink "ScoreHandles$Rows" (9 : Nat) "ScoreHandles$Row") ∈ lw_all := lw_in 31 (by decide +kernel) rfl
theorem qw33 : (Jvm.Cond.fieldLink "ScoreHandles$Rows" (11 : Nat) "ScoreHandles$Rows" "kept" "[LScoreHandles$Row;") ∈ lw_all := lw_in 33 (by decide +kernel) rfl
theorem qw34 : (Jvm.Cond.fieldLink "ScoreHandles$Rows" (17 : Nat) "ScoreHandles$Rows" "many" "I") ∈ lw_all := lw_in 34 (by decide +kernel) rfl
theorem qn35 : (Jvm.Cond.fieldLinkNest "ScoreHandles" (182 : Nat) "ScoreHandles$Rows" "many" "I" "ScoreHandles") ∈ lw_nest := lw_inN 35 (by decide +kernel) rfl
theorem qw36 : (Jvm.Cond.laysFinal "ScoreHandles$Rows" "ScoreHandles$Rows" "kept" "[LScoreHandles$Row;") ∈ lw_all := lw_in 36 (by decide +kernel) rfl
theorem qw38 : (Jvm.Cond.lays "ScoreHandles$Rows" "ScoreHandles$Rows" "many" "I") ∈ lw_all := lw_in 38 (by decide +kernel) rfl
theorem qw41 : (Jvm.Cond.classLink "ScoreHandles" (10 : Nat) "ScoreHandles$Handles") ∈ lw_all := lw_in 41 (by decide +kernel) rfl
theorem qw42 : (Jvm.Cond.instantiable "ScoreHandles$Handles" (2 : Nat)) ∈ lw_all := lw_in 42 (by decide +kernel) rfl
theorem qn43 : (Jvm.Cond.methodLinkNest "ScoreHandles" (12 : Nat) ({ cls := "ScoreHandles$Handles", name := "<init>", desc := "()V" } : Jvm.MethodName) "ScoreHandles") ∈ lw_nest := lw_inN 43 (by decide +kernel) rfl
theorem qw44 : (Jvm.Cond.instanceMethod ({ cls := "ScoreHandles$Handles", name := "<init>", desc := "()V" } : Jvm.MethodName)) ∈ lw_all := lw_in 44 (by decide +kernel) rfl
theorem qw45 : (Jvm.Cond.code ({ cls := "ScoreHandles$Handles", name := "<init>", desc := "()V" } : Jvm.MethodName) prog_3_method_1_code (1 : Nat) (Option.none : Option Jvm.ClassFile.FieldType)) ∈ lw_all := lw_in 45 (by decide +kernel) rfl
theorem qw46 : (Jvm.Cond.methodLink "ScoreHandles$Handles" (3 : Nat) ({ cls := "java/lang/Object", name := "<init>", desc := "()V" } : Jvm.MethodName)) ∈ lw_all := lw_in 46 (by decide +kernel) rfl
theorem qw47 : (Jvm.Cond.classLink "ScoreHandles$Handles" (9 : Nat) "ScoreHandles$Handle") ∈ lw_all := lw_in 47 (by decide +kernel) rfl
theorem qw49 : (Jvm.Cond.fieldLink "ScoreHandles$Handles" (11 : Nat) "ScoreHandles$Handles" "kept" "[LScoreHandles$Handle;") ∈ lw_all := lw_in 49 (by decide +kernel) rfl
theorem qw50 : (Jvm.Cond.fieldLink "ScoreHandles$Handles" (17 : Nat) "ScoreHandles$Handles" "many" "I") ∈ lw_all := lw_in 50 (by decide +kernel) rfl
theorem qn51 : (Jvm.Cond.fieldLinkNest "ScoreHandles" (183 : Nat) "ScoreHandles$Handles" "many" "I" "ScoreHandles") ∈ lw_nest := lw_inN 51 (by decide +kernel) rfl
theorem qw52 : (Jvm.Cond.laysFinal "ScoreHandles$Handles" "ScoreHandles$Handles" "kept" "[LScoreHandles$Handle;") ∈ lw_all := lw_in 52 (by decide +kernel) rfl
theorem qw54 : (Jvm.Cond.lays "ScoreHandles$Handles" "ScoreHandles$Handles" "many" "I") ∈ lw_all := lw_in 54 (by decide +kernel) rfl
theorem qw57 : (Jvm.Cond.classLink "ScoreHandles" (23 : Nat) "ScoreHandles$Maker") ∈ lw_all := lw_in 57 (by decide +kernel) rfl
theorem qw58 : (Jvm.Cond.instantiable "ScoreHandles$Maker" (2 : Nat)) ∈ lw_all := lw_in 58 (by decide +kernel) rfl
theorem qn59 : (Jvm.Cond.methodLinkNest "ScoreHandles" (25 : Nat) ({ cls := "ScoreHandles$Maker", name := "<init>", desc := "(LScoreHandles$Handles;LScoreHandles$Rows;)V" } : Jvm.MethodName) "ScoreHandles") ∈ lw_nest := lw_inN 59 (by decide +kernel) rfl
theorem qw60 : (Jvm.Cond.instanceMethod ({ cls := "ScoreHandles$Maker", name := "<init>", desc := "(LScoreHandles$Handles;LScoreHandles$Rows;)V" } : Jvm.MethodName)) ∈ lw_all := lw_in 60 (by decide +kernel) rfl
theorem qw61 : (Jvm.Cond.code ({ cls := "ScoreHandles$Maker", name := "<init>", desc := "(LScoreHandles$Handles;LScoreHandles$Rows;)V" } : Jvm.MethodName) prog_5_method_1_code (3 : Nat) (Option.none : Option Jvm.ClassFile.FieldType)) ∈ lw_all := lw_in 61 (by decide +kernel) rfl
theorem qw62 : (Jvm.Cond.methodLink "ScoreHandles$Maker" (3 : Nat) ({ cls := "java/lang/Object", name := "<init>", desc := "()V" } : Jvm.MethodName)) ∈ lw_all := lw_in 62 (by decide +kernel) rfl
theorem qw63 : (Jvm.Cond.fieldLink "ScoreHandles$Maker" (9 : Nat) "ScoreHandles$Maker" "handles" "LScoreHandles$Handles;") ∈ lw_all := lw_in 63 (by decide +kernel) rfl
theorem qw64 : (Jvm.Cond.fieldLink "ScoreHandles$Maker" (15 : Nat) "ScoreHandles$Maker" "rows" "LScoreHandles$Rows;") ∈ lw_all := lw_in 64 (by decide +kernel) rfl
theorem qw65 : (Jvm.Cond.laysFinal "ScoreHandles$Maker" "ScoreHandles$Maker" "handles" "LScoreHandles$Handles;") ∈ lw_all := lw_in 65 (by decide +kernel) rfl
theorem qw67 : (Jvm.Cond.laysFinal "ScoreHandles$Maker" "ScoreHandles$Maker" "rows" "LScoreHandles$Rows;") ∈ lw_all := lw_in 67 (by decide +kernel) rfl
theorem qw70 : (Jvm.Cond.classLink "ScoreHandles" (32 : Nat) "ScoreHandles$Runner") ∈ lw_all := lw_in 70 (by decide +kernel) rfl
theorem qw71 : (Jvm.Cond.instantiable "ScoreHandles$Runner" (7 : Nat)) ∈ lw_all := lw_in 71 (by decide +kernel) rfl
theorem qn72 : (Jvm.Cond.methodLinkNest "ScoreHandles" (34 : Nat) ({ cls := "ScoreHandles$Runner", name := "<init>", desc := "(LScoreHandles$Handles;LScoreHandles$Rows;)V" } : Jvm.MethodName) "ScoreHandles") ∈ lw_nest := lw_inN 72 (by decide +kernel) rfl
theorem qw73 : (Jvm.Cond.instanceMethod ({ cls := "ScoreHandles$Runner", name := "<init>", desc := "(LScoreHandles$Handles;LScoreHandles$Rows;)V" } : Jvm.MethodName)) ∈ lw_all := lw_in 73 (by decide +kernel) rfl
theorem qw74 : (Jvm.Cond.code ({ cls := "ScoreHandles$Runner", name := "<init>", desc := "(LScoreHandles$Handles;LScoreHandles$Rows;)V" } : Jvm.MethodName) prog_9_method_1_code (3 : Nat) (Option.none : Option Jvm.ClassFile.FieldType)) ∈ lw_all := lw_in 74 (by decide +kernel) rfl
theorem qw75 : (Jvm.Cond.methodLink "ScoreHandles$Runner" (3 : Nat) ({ cls := "java/lang/Object", name := "<init>", desc := "()V" } : Jvm.MethodName)) ∈ lw_all := lw_in 75 (by decide +kernel) rfl
theorem qw76 : (Jvm.Cond.fieldLink "ScoreHandles$Runner" (9 : Nat) "ScoreHandles$Runner" "handles" "LScoreHandles$Handles;") ∈ lw_all := lw_in 76 (by decide +kernel) rfl
theorem qw77 : (Jvm.Cond.fieldLink "ScoreHandles$Runner" (15 : Nat) "ScoreHandles$Runner" "rows" "LScoreHandles$Rows;") ∈ lw_all := lw_in 77 (by decide +kernel) rfl
theorem qw78 : (Jvm.Cond.fieldLink "ScoreHandles$Runner" (19 : Nat) "ScoreHandles$Runner" "frames" "[J") ∈ lw_all := lw_in 78 (by decide +kernel) rfl
theorem qw79 : (Jvm.Cond.fieldLink "ScoreHandles$Runner" (27 : Nat) "ScoreHandles$Runner" "steps" "I") ∈ lw_all := lw_in 79 (by decide +kernel) rfl
theorem qn80 : (Jvm.Cond.fieldLinkNest "ScoreHandles" (173 : Nat) "ScoreHandles$Runner" "steps" "I" "ScoreHandles") ∈ lw_nest := lw_inN 80 (by decide +kernel) rfl
theorem qw81 : (Jvm.Cond.fieldLink "ScoreHandles$Runner" (30 : Nat) "ScoreHandles$Runner" "failures" "I") ∈ lw_all := lw_in 81 (by decide +kernel) rfl
theorem qn82 : (Jvm.Cond.fieldLinkNest "ScoreHandles" (176 : Nat) "ScoreHandles$Runner" "failures" "I" "ScoreHandles") ∈ lw_nest := lw_inN 82 (by decide +kernel) rfl
theorem qw83 : (Jvm.Cond.fieldLink "ScoreHandles$Runner" (23 : Nat) "ScoreHandles$Runner" "failedLast" "I") ∈ lw_all := lw_in 83 (by decide +kernel) rfl
theorem qn84 : (Jvm.Cond.fieldLinkNest "ScoreHandles" (179 : Nat) "ScoreHandles$Runner" "failedLast" "I" "ScoreHandles") ∈ lw_nest := lw_inN 84 (by decide +kernel) rfl
theorem qw85 : (Jvm.Cond.fieldLink "ScoreHandles$Runner" (33 : Nat) "ScoreHandles$Runner" "failure" "I") ∈ lw_all := lw_in 85 (by decide +kernel) rfl
theorem qn86 : (Jvm.Cond.fieldLinkNest "ScoreHandles" (163 : Nat) "ScoreHandles$Runner" "failure" "I" "ScoreHandles") ∈ lw_nest := lw_inN 86 (by decide +kernel) rfl
theorem qw87 : (Jvm.Cond.laysFinal "ScoreHandles$Runner" "ScoreHandles$Runner" "handles" "LScoreHandles$Handles;") ∈ lw_all := lw_in 87 (by decide +kernel) rfl
theorem qw89 : (Jvm.Cond.laysFinal "ScoreHandles$Runner" "ScoreHandles$Runner" "rows" "LScoreHandles$Rows;") ∈ lw_all := lw_in 89 (by decide +kernel) rfl
theorem qw91 : (Jvm.Cond.laysFinal "ScoreHandles$Runner" "ScoreHandles$Runner" "frames" "[J") ∈ lw_all := lw_in 91 (by decide +kernel) rfl
theorem qw93 : (Jvm.Cond.lays "ScoreHandles$Runner" "ScoreHandles$Runner" "steps" "I") ∈ lw_all := lw_in 93 (by decide +kernel) rfl
theorem qw95 : (Jvm.Cond.lays "ScoreHandles$Runner" "ScoreHandles$Runner" "failures" "I") ∈ lw_all := lw_in 95 (by decide +kernel) rfl
theorem qw97 : (Jvm.Cond.lays "ScoreHandles$Runner" "ScoreHandles$Runner" "failedLast" "I") ∈ lw_all := lw_in 97 (by decide +kernel) rfl
theorem qw99 : (Jvm.Cond.lays "ScoreHandles$Runner" "ScoreHandles$Runner" "failure" "I") ∈ lw_all := lw_in 99 (by decide +kernel) rfl
theorem qw102 : (Jvm.Cond.arrayClass Jvm.ClassFile.FieldType.long) ∈ lw_all := lw_in 102 (by decide +kernel) rfl
theorem qw103 : (Jvm.Cond.classLink "ScoreHandles" (43 : Nat) "ScoreHandles$Type") ∈ lw_all := lw_in 103 (by decide +kernel) rfl
theorem qw104 : (Jvm.Cond.instantiable "ScoreHandles$Type" (3 : Nat)) ∈ lw_all := lw_in 104 (by decide +kernel) rfl
theorem qn105 : (Jvm.Cond.methodLinkNest "ScoreHandles" (47 : Nat) ({ cls := "ScoreHandles$Type", name := "<init>", desc := "(II[I)V" } : Jvm.MethodName) "ScoreHandles") ∈ lw_nest := lw_inN 105 (by decide +kernel) rfl
theorem qw106 : (Jvm.Cond.instanceMethod ({ cls := "ScoreHandles$Type", name := "<init>", desc := "(II[I)V" } : Jvm.MethodName)) ∈ lw_all := lw_in 106 (by decide +kernel) rfl
theorem qw107 : (Jvm.Cond.code ({ cls := "ScoreHandles$Type", name := "<init>", desc := "(II[I)V" } : Jvm.MethodName) prog_11_method_1_code (4 : Nat) (Option.none : Option Jvm.ClassFile.FieldType)) ∈ lw_all := lw_in 107 (by decide +kernel) rfl
theorem qw108 : (Jvm.Cond.methodLink "ScoreHandles$Type" (3 : Nat) ({ cls := "java/lang/Object", name := "<init>", desc := "()V" } : Jvm.MethodName)) ∈ lw_all := lw_in 108 (by decide +kernel) rfl
theorem qw109 : (Jvm.Cond.fieldLink "ScoreHandles$Type" (9 : Nat) "ScoreHandles$Type" "result" "I") ∈ lw_all := lw_in 109 (by decide +kernel) rfl
theorem qn110 : (Jvm.Cond.fieldLinkNest "ScoreHandles" (131 : Nat) "ScoreHandles$Type" "result" "I" "ScoreHandles") ∈ lw_nest := lw_inN 110 (by decide +kernel) rfl
theorem qn111 : (Jvm.Cond.fieldLinkNest "ScoreHandles$Maker" (121 : Nat) "ScoreHandles$Type" "result" "I" "ScoreHandles") ∈ lw_nest := lw_inN 111 (by decide +kernel) rfl
theorem qn112 : (Jvm.Cond.fieldLinkNest "ScoreHandles$Runner" (208 : Nat) "ScoreHandles$Type" "result" "I" "ScoreHandles") ∈ lw_nest := lw_inN 112 (by decide +kernel) rfl
theorem qw113 : (Jvm.Cond.fieldLink "ScoreHandles$Type" (15 : Nat) "ScoreHandles$Type" "many" "I") ∈ lw_all := lw_in 113 (by decide +kernel) rfl
theorem qn114 : (Jvm.Cond.fieldLinkNest "ScoreHandles$Maker" (94 : Nat) "ScoreHandles$Type" "many" "I" "ScoreHandles") ∈ lw_nest := lw_inN 114 (by decide +kernel) rfl
theorem qn115 : (Jvm.Cond.fieldLinkNest "ScoreHandles" (129 : Nat) "ScoreHandles$Type" "many" "I" "ScoreHandles") ∈ lw_nest := lw_inN 115 (by decide +kernel) rfl
theorem qn116 : (Jvm.Cond.fieldLinkNest "ScoreHandles$Runner" (225 : Nat) "ScoreHandles$Type" "many" "I" "ScoreHandles") ∈ lw_nest := lw_inN 116 (by decide +kernel) rfl
theorem qw117 : (Jvm.Cond.fieldLink "ScoreHandles$Type" (18 : Nat) "ScoreHandles$Type" "kinds" "[I") ∈ lw_all := lw_in 117 (by decide +kernel) rfl
theorem qw118 : (Jvm.Cond.laysFinal "ScoreHandles$Type" "ScoreHandles$Type" "result" "I") ∈ lw_all := lw_in 118 (by decide +kernel) rfl
theorem qw120 : (Jvm.Cond.laysFinal "ScoreHandles$Type" "ScoreHandles$Type" "many" "I") ∈ lw_all := lw_in 120 (by decide +kernel) rfl
theorem qw122 : (Jvm.Cond.laysFinal "ScoreHandles$Type" "ScoreHandles$Type" "kinds" "[I") ∈ lw_all := lw_in 122 (by decide +kernel) rfl
theorem qw125 : (Jvm.Cond.arrayClass Jvm.ClassFile.FieldType.int) ∈ lw_all := lw_in 125 (by decide +kernel) rfl
theorem qw126 : (Jvm.Cond.fieldLink "ScoreHandles" (13 : Nat) "ScoreHandles" "rows" "LScoreHandles$Rows;") ∈ lw_all := lw_in 126 (by decide +kernel) rfl
theorem qw127 : (Jvm.Cond.fieldLink "ScoreHandles" (19 : Nat) "ScoreHandles" "handles" "LScoreHandles$Handles;") ∈ lw_all := lw_in 127 (by decide +kernel) rfl
theorem qw128 : (Jvm.Cond.fieldLink "ScoreHandles" (28 : Nat) "ScoreHandles" "maker" "LScoreHandles$Maker;") ∈ lw_all := lw_in 128 (by decide +kernel) rfl
theorem qw129 : (Jvm.Cond.fieldLink "ScoreHandles" (35 : Nat) "ScoreHandles" "runner" "LScoreHandles$Runner;") ∈ lw_all := lw_in 129 (by decide +kernel) rfl
theorem qw130 : (Jvm.Cond.fieldLink "ScoreHandles" (39 : Nat) "ScoreHandles" "numbers" "[J") ∈ lw_all := lw_in 130 (by decide +kernel) rfl
theorem qw131 : (Jvm.Cond.fieldLink "ScoreHandles" (50 : Nat) "ScoreHandles" "atHand" "LScoreHandles$Type;") ∈ lw_all := lw_in 131 (by decide +kernel) rfl
theorem qw132 : (Jvm.Cond.fieldLink "ScoreHandles" (170 : Nat) "ScoreHandles" "result" "J") ∈ lw_all := lw_in 132 (by decide +kernel) rfl
theorem qw133 : (Jvm.Cond.fieldLink "ScoreHandles" (149 : Nat) "ScoreHandles" "runs" "I") ∈ lw_all := lw_in 133 (by decide +kernel) rfl
theorem qw134 : (Jvm.Cond.laysFinal "ScoreHandles" "ScoreHandles" "rows" "LScoreHandles$Rows;") ∈ lw_all := lw_in 134 (by decide +kernel) rfl
theorem qw136 : (Jvm.Cond.laysFinal "ScoreHandles" "ScoreHandles" "handles" "LScoreHandles$Handles;") ∈ lw_all := lw_in 136 (by decide +kernel) rfl
theorem qw138 : (Jvm.Cond.laysFinal "ScoreHandles" "ScoreHandles" "maker" "LScoreHandles$Maker;") ∈ lw_all := lw_in 138 (by decide +kernel) rfl
theorem qw140 : (Jvm.Cond.laysFinal "ScoreHandles" "ScoreHandles" "runner" "LScoreHandles$Runner;") ∈ lw_all := lw_in 140 (by decide +kernel) rfl
theorem qw142 : (Jvm.Cond.laysFinal "ScoreHandles" "ScoreHandles" "numbers" "[J") ∈ lw_all := lw_in 142 (by decide +kernel) rfl
theorem qw144 : (Jvm.Cond.lays "ScoreHandles" "ScoreHandles" "atHand" "LScoreHandles$Type;") ∈ lw_all := lw_in 144 (by decide +kernel) rfl
theorem qw146 : (Jvm.Cond.lays "ScoreHandles" "ScoreHandles" "result" "J") ∈ lw_all := lw_in 146 (by decide +kernel) rfl
theorem qw148 : (Jvm.Cond.lays "ScoreHandles" "ScoreHandles" "runs" "I") ∈ lw_all := lw_in 148 (by decide +kernel) rfl
theorem qw151 : (Jvm.Cond.methodLink "ScoreHandlesLaw" (13 : Nat) ({ cls := "ScoreHandles", name := "row", desc := "(II)I" } : Jvm.MethodName)) ∈ lw_all := lw_in 151 (by decide +kernel) rfl
theorem qw152 : (Jvm.Cond.instanceMethod ({ cls := "ScoreHandles", name := "row", desc := "(II)I" } : Jvm.MethodName)) ∈ lw_all := lw_in 152 (by decide +kernel) rfl
theorem qw153 : (Jvm.Cond.selects "ScoreHandles" ({ cls := "ScoreHandles", name := "row", desc := "(II)I" } : Jvm.MethodName) ({ cls := "ScoreHandles", name := "row", desc := "(II)I" } : Jvm.MethodName)) ∈ lw_all := lw_in 153 (by decide +kernel) rfl
theorem qw154 : (Jvm.Cond.code ({ cls := "ScoreHandles", name := "row", desc := "(II)I" } : Jvm.MethodName) prog_1_method_2_code (3 : Nat) (Option.some Jvm.ClassFile.FieldType.int)) ∈ lw_all := lw_in 154 (by decide +kernel) rfl
theorem qn155 : (Jvm.Cond.methodLinkNest "ScoreHandles" (54 : Nat) ({ cls := "ScoreHandles$Kind", name := "isLane", desc := "(I)Z" } : Jvm.MethodName) "ScoreHandles") ∈ lw_nest := lw_inN 155 (by decide +kernel) rfl
theorem qw156 : (Jvm.Cond.static ({ cls := "ScoreHandles$Kind", name := "isLane", desc := "(I)Z" } : Jvm.MethodName)) ∈ lw_all := lw_in 156 (by decide +kernel) rfl
theorem qw157 : (Jvm.Cond.code ({ cls := "ScoreHandles$Kind", name := "isLane", desc := "(I)Z" } : Jvm.MethodName) prog_4_method_3_code (1 : Nat) (Option.some Jvm.ClassFile.FieldType.boolean)) ∈ lw_all := lw_in 157 (by decide +kernel) rfl
theorem qn158 : (Jvm.Cond.methodLinkNest "ScoreHandles" (58 : Nat) ({ cls := "ScoreHandles$Rows", name := "added", desc := "(II)I" } : Jvm.MethodName) "ScoreHandles") ∈ lw_nest := lw_inN 158 (by decide +kernel) rfl
theorem qw160 : (Jvm.Cond.instanceMethod ({ cls := "ScoreHandles$Rows", name := "added", desc := "(II)I" } : Jvm.MethodName)) ∈ lw_all := lw_in 160 (by decide +kernel) rfl
theorem qw161 : (Jvm.Cond.code ({ cls := "ScoreHandles$Rows", name := "added", desc := "(II)I" } : Jvm.MethodName) prog_8_method_3_code (3 : Nat) (Option.some Jvm.ClassFile.FieldType.int)) ∈ lw_all := lw_in 161 (by decide +kernel) rfl
theorem qw162 : (Jvm.Cond.instantiable "ScoreHandles$Row" (2 : Nat)) ∈ lw_all := lw_in 162 (by decide +kernel) rfl
theorem qn163 : (Jvm.Cond.methodLinkNest "ScoreHandles$Rows" (21 : Nat) ({ cls := "ScoreHandles$Row", name := "<init>", desc := "(II)V" } : Jvm.MethodName) "ScoreHandles") ∈ lw_nest := lw_inN 163 (by decide +kernel) rfl
theorem qw164 : (Jvm.Cond.instanceMethod ({ cls := "ScoreHandles$Row", name := "<init>", desc := "(II)V" } : Jvm.MethodName)) ∈ lw_all := lw_in 164 (by decide +kernel) rfl
theorem qw165 : (Jvm.Cond.code ({ cls := "ScoreHandles$Row", name := "<init>", desc := "(II)V" } : Jvm.MethodName) prog_7_method_1_code (3 : Nat) (Option.none : Option Jvm.ClassFile.FieldType)) ∈ lw_all := lw_in 165 (by decide +kernel) rfl
theorem qw166 : (Jvm.Cond.methodLink "ScoreHandles$Row" (3 : Nat) ({ cls := "java/lang/Object", name := "<init>", desc := "()V" } : Jvm.MethodName)) ∈ lw_all := lw_in 166 (by decide +kernel) rfl
theorem qw167 : (Jvm.Cond.methodLink "ScoreHandles$Row" (15 : Nat) ({ cls := "java/lang/Math", name := "min", desc := "(II)I" } : Jvm.MethodName)) ∈ lw_all := lw_in 167 (by decide +kernel) rfl
theorem qw168 : (Jvm.Cond.static ({ cls := "java/lang/Math", name := "min", desc := "(II)I" } : Jvm.MethodName)) ∈ lw_all := lw_in 168 (by decide +kernel) rfl
theorem qw169 : (Jvm.Cond.code ({ cls := "java/lang/Math", name := "min", desc := "(II)I" } : Jvm.MethodName) prog_17_method_69_code (2 : Nat) (Option.some Jvm.ClassFile.FieldType.int)) ∈ lw_all := lw_in 169 (by decide +kernel) rfl
theorem qw170 : (Jvm.Cond.methodLink "ScoreHandles$Row" (21 : Nat) ({ cls := "java/lang/Math", name := "max", desc := "(II)I" } : Jvm.MethodName)) ∈ lw_all := lw_in 170 (by decide +kernel) rfl
theorem qw171 : (Jvm.Cond.static ({ cls := "java/lang/Math", name := "max", desc := "(II)I" } : Jvm.MethodName)) ∈ lw_all := lw_in 171 (by decide +kernel) rfl
theorem qw172 : (Jvm.Cond.code ({ cls := "java/lang/Math", name := "max", desc := "(II)I" } : Jvm.MethodName) prog_17_method_65_code (2 : Nat) (Option.some Jvm.ClassFile.FieldType.int)) ∈ lw_all := lw_in 172 (by decide +kernel) rfl
theorem qw173 : (Jvm.Cond.fieldLink "ScoreHandles$Row" (9 : Nat) "ScoreHandles$Row" "lane" "I") ∈ lw_all := lw_in 173 (by decide +kernel) rfl
theorem qn174 : (Jvm.Cond.fieldLinkNest "ScoreHandles" (72 : Nat) "ScoreHandles$Row" "lane" "I" "ScoreHandles") ∈ lw_nest := lw_inN 174 (by decide +kernel) rfl
theorem qn175 : (Jvm.Cond.fieldLinkNest "ScoreHandles$Rows" (36 : Nat) "ScoreHandles$Row" "lane" "I" "ScoreHandles") ∈ lw_nest := lw_inN 175 (by decide +kernel) rfl
theorem qw176 : (Jvm.Cond.fieldLink "ScoreHandles$Row" (24 : Nat) "ScoreHandles$Row" "items" "[J") ∈ lw_all := lw_in 176 (by decide +kernel) rfl
theorem qw177 : (Jvm.Cond.laysFinal "ScoreHandles$Row" "ScoreHandles$Row" "lane" "I") ∈ lw_all := lw_in 177 (by decide +kernel) rfl
theorem qw179 : (Jvm.Cond.laysFinal "ScoreHandles$Row" "ScoreHandles$Row" "items" "[J") ∈ lw_all := lw_in 179 (by decide +kernel) rfl
theorem qw182 : (Jvm.Cond.methodLink "ScoreHandlesLaw" (20 : Nat) ({ cls := "ScoreHandles", name := "put", desc := "(IIJ)I" } : Jvm.MethodName)) ∈ lw_all := lw_in 182 (by decide +kernel) rfl
theorem qw183 : (Jvm.Cond.instanceMethod ({ cls := "ScoreHandles", name := "put", desc := "(IIJ)I" } : Jvm.MethodName)) ∈ lw_all := lw_in 183 (by decide +kernel) rfl
theorem qw184 : (Jvm.Cond.selects "ScoreHandles" ({ cls := "ScoreHandles", name := "put", desc := "(IIJ)I" } : Jvm.MethodName) ({ cls := "ScoreHandles", name := "put", desc := "(IIJ)I" } : Jvm.MethodName)) ∈ lw_all := lw_in 184 (by decide +kernel) rfl
theorem qw185 : (Jvm.Cond.code ({ cls := "ScoreHandles", name := "put", desc := "(IIJ)I" } : Jvm.MethodName) prog_1_method_3_code (6 : Nat) (Option.some Jvm.ClassFile.FieldType.int)) ∈ lw_all := lw_in 185 (by decide +kernel) rfl
theorem qn186 : (Jvm.Cond.methodLinkNest "ScoreHandles" (62 : Nat) ({ cls := "ScoreHandles$Rows", name := "at", desc := "(J)LScoreHandles$Row;" } : Jvm.MethodName) "ScoreHandles") ∈ lw_nest := lw_inN 186 (by decide +kernel) rfl
theorem qw188 : (Jvm.Cond.instanceMethod ({ cls := "ScoreHandles$Rows", name := "at", desc := "(J)LScoreHandles$Row;" } : Jvm.MethodName)) ∈ lw_all := lw_in 188 (by decide +kernel) rfl
theorem qw189 : (Jvm.Cond.code ({ cls := "ScoreHandles$Rows", name := "at", desc := "(J)LScoreHandles$Row;" } : Jvm.MethodName) prog_8_method_2_code (3 : Nat) (Option.some (Jvm.ClassFile.FieldType.object "ScoreHandles$Row"))) ∈ lw_all := lw_in 189 (by decide +kernel) rfl
theorem qn190 : (Jvm.Cond.methodLinkNest "ScoreHandles" (66 : Nat) ({ cls := "ScoreHandles$Row", name := "has", desc := "(J)Z" } : Jvm.MethodName) "ScoreHandles") ∈ lw_nest := lw_inN 190 (by decide +kernel) rfl
theorem qw192 : (Jvm.Cond.instanceMethod ({ cls := "ScoreHandles$Row", name := "has", desc := "(J)Z" } : Jvm.MethodName)) ∈ lw_all := lw_in 192 (by decide +kernel) rfl
theorem qw193 : (Jvm.Cond.code ({ cls := "ScoreHandles$Row", name := "has", desc := "(J)Z" } : Jvm.MethodName) prog_7_method_3_code (3 : Nat) (Option.some Jvm.ClassFile.FieldType.boolean)) ∈ lw_all := lw_in 193 (by decide +kernel) rfl
theorem qn194 : (Jvm.Cond.methodLinkNest "ScoreHandles" (76 : Nat) ({ cls := "ScoreHandles$Kind", name := "fromBits", desc := "(IJ)J" } : Jvm.MethodName) "ScoreHandles") ∈ lw_nest := lw_inN 194 (by decide +kernel) rfl
theorem qw195 : (Jvm.Cond.static ({ cls := "ScoreHandles$Kind", name := "fromBits", desc := "(IJ)J" } : Jvm.MethodName)) ∈ lw_all := lw_in 195 (by decide +kernel) rfl
theorem qw196 : (Jvm.Cond.code ({ cls := "ScoreHandles$Kind", name := "fromBits", desc := "(IJ)J" } : Jvm.MethodName) prog_4_method_7_code (3 : Nat) (Option.some Jvm.ClassFile.FieldType.long)) ∈ lw_all := lw_in 196 (by decide +kernel) rfl
theorem qw197 : (Jvm.Cond.fieldLink "ScoreHandles$Kind" (15 : Nat) "ScoreHandles$Real" "SINGLE" "LScoreHandles$Real;") ∈ lw_all := lw_in 197 (by decide +kernel) rfl
theorem qn199 : (Jvm.Cond.methodLinkNest "ScoreHandles$Kind" (21 : Nat) ({ cls := "ScoreHandles$Real", name := "plain", desc := "(J)J" } : Jvm.MethodName) "ScoreHandles") ∈ lw_nest := lw_inN 199 (by decide +kernel) rfl
theorem qw201 : (Jvm.Cond.instanceMethod ({ cls := "ScoreHandles$Real", name := "plain", desc := "(J)J" } : Jvm.MethodName)) ∈ lw_all := lw_in 201 (by decide +kernel) rfl
theorem qw202 : (Jvm.Cond.instantiable "ScoreHandles$Real" (7 : Nat)) ∈ lw_all := lw_in 202 (by decide +kernel) rfl
theorem qw203 : (Jvm.Cond.code ({ cls := "ScoreHandles$Real", name := "plain", desc := "(J)J" } : Jvm.MethodName) prog_6_method_9_code (3 : Nat) (Option.some Jvm.ClassFile.FieldType.long)) ∈ lw_all := lw_in 203 (by decide +kernel) rfl
theorem qw204 : (Jvm.Cond.methodLink "ScoreHandles$Real" (53 : Nat) ({ cls := "ScoreHandles$Real", name := "isNoNumber", desc := "(J)Z" } : Jvm.MethodName)) ∈ lw_all := lw_in 204 (by decide +kernel) rfl
theorem qw206 : (Jvm.Cond.instanceMethod ({ cls := "ScoreHandles$Real", name := "isNoNumber", desc := "(J)Z" } : Jvm.MethodName)) ∈ lw_all := lw_in 206 (by decide +kernel) rfl
theorem qw207 : (Jvm.Cond.code ({ cls := "ScoreHandles$Real", name := "isNoNumber", desc := "(J)Z" } : Jvm.MethodName) prog_6_method_7_code (3 : Nat) (Option.some Jvm.ClassFile.FieldType.boolean)) ∈ lw_all := lw_in 207 (by decide +kernel) rfl
theorem qw208 : (Jvm.Cond.methodLink "ScoreHandles$Real" (49 : Nat) ({ cls := "ScoreHandles$Real", name := "magnitude", desc := "(J)J" } : Jvm.MethodName)) ∈ lw_all := lw_in 208 (by decide +kernel) rfl
theorem qw210 : (Jvm.Cond.instanceMethod ({ cls := "ScoreHandles$Real", name := "magnitude", desc := "(J)J" } : Jvm.MethodName)) ∈ lw_all := lw_in 210 (by decide +kernel) rfl
theorem qw211 : (Jvm.Cond.code ({ cls := "ScoreHandles$Real", name := "magnitude", desc := "(J)J" } : Jvm.MethodName) prog_6_method_6_code (3 : Nat) (Option.some Jvm.ClassFile.FieldType.long)) ∈ lw_all := lw_in 211 (by decide +kernel) rfl
theorem qw212 : (Jvm.Cond.constantLong "ScoreHandles$Real" (39 : Nat) (-1 : Int64)) ∈ lw_all := lw_in 212 (by decide +kernel) rfl
theorem qw213 : (Jvm.Cond.methodLink "ScoreHandles$Real" (45 : Nat) ({ cls := "ScoreHandles$Real", name := "infinity", desc := "()J" } : Jvm.MethodName)) ∈ lw_all := lw_in 213 (by decide +kernel) rfl
theorem qw215 : (Jvm.Cond.instanceMethod ({ cls := "ScoreHandles$Real", name := "infinity", desc := "()J" } : Jvm.MethodName)) ∈ lw_all := lw_in 215 (by decide +kernel) rfl
theorem qw216 : (Jvm.Cond.code ({ cls := "ScoreHandles$Real", name := "infinity", desc := "()J" } : Jvm.MethodName) prog_6_method_4_code (1 : Nat) (Option.some Jvm.ClassFile.FieldType.long)) ∈ lw_all := lw_in 216 (by decide +kernel) rfl
theorem qw217 : (Jvm.Cond.methodLink "ScoreHandles$Real" (57 : Nat) ({ cls := "ScoreHandles$Real", name := "noNumber", desc := "()J" } : Jvm.MethodName)) ∈ lw_all := lw_in 217 (by decide +kernel) rfl
theorem qw219 : (Jvm.Cond.instanceMethod ({ cls := "ScoreHandles$Real", name := "noNumber", desc := "()J" } : Jvm.MethodName)) ∈ lw_all := lw_in 219 (by decide +kernel) rfl
theorem qw220 : (Jvm.Cond.code ({ cls := "ScoreHandles$Real", name := "noNumber", desc := "()J" } : Jvm.MethodName) prog_6_method_5_code (1 : Nat) (Option.some Jvm.ClassFile.FieldType.long)) ∈ lw_all := lw_in 220 (by decide +kernel) rfl
theorem qw221 : (Jvm.Cond.fieldLink "ScoreHandles$Kind" (25 : Nat) "ScoreHandles$Real" "DOUBLE" "LScoreHandles$Real;") ∈ lw_all := lw_in 221 (by decide +kernel) rfl
theorem qn223 : (Jvm.Cond.methodLinkNest "ScoreHandles" (80 : Nat) ({ cls := "ScoreHandles$Row", name := "set", desc := "(JJ)V" } : Jvm.MethodName) "ScoreHandles") ∈ lw_nest := lw_inN 223 (by decide +kernel) rfl
theorem qw225 : (Jvm.Cond.instanceMethod ({ cls := "ScoreHandles$Row", name := "set", desc := "(JJ)V" } : Jvm.MethodName)) ∈ lw_all := lw_in 225 (by decide +kernel) rfl
theorem qw226 : (Jvm.Cond.code ({ cls := "ScoreHandles$Row", name := "set", desc := "(JJ)V" } : Jvm.MethodName) prog_7_method_5_code (5 : Nat) (Option.none : Option Jvm.ClassFile.FieldType)) ∈ lw_all := lw_in 226 (by decide +kernel) rfl
theorem qw227 : (Jvm.Cond.methodLink "ScoreHandles$Row" (28 : Nat) ({ cls := "ScoreHandles$Row", name := "has", desc := "(J)Z" } : Jvm.MethodName)) ∈ lw_all := lw_in 227 (by decide +kernel) rfl
theorem qw228 : (Jvm.Cond.methodLink "ScoreHandlesLaw" (25 : Nat) ({ cls := "ScoreHandles", name := "item", desc := "(II)J" } : Jvm.MethodName)) ∈ lw_all := lw_in 228 (by decide +kernel) rfl
theorem qw229 : (Jvm.Cond.instanceMethod ({ cls := "ScoreHandles", name := "item", desc := "(II)J" } : Jvm.MethodName)) ∈ lw_all := lw_in 229 (by decide +kernel) rfl
theorem qw230 : (Jvm.Cond.selects "ScoreHandles" ({ cls := "ScoreHandles", name := "item", desc := "(II)J" } : Jvm.MethodName) ({ cls := "ScoreHandles", name := "item", desc := "(II)J" } : Jvm.MethodName)) ∈ lw_all := lw_in 230 (by decide +kernel) rfl
theorem qw231 : (Jvm.Cond.code ({ cls := "ScoreHandles", name := "item", desc := "(II)J" } : Jvm.MethodName) prog_1_method_4_code (4 : Nat) (Option.some Jvm.ClassFile.FieldType.long)) ∈ lw_all := lw_in 231 (by decide +kernel) rfl
theorem qn232 : (Jvm.Cond.methodLinkNest "ScoreHandles" (84 : Nat) ({ cls := "ScoreHandles$Row", name := "get", desc := "(J)J" } : Jvm.MethodName) "ScoreHandles") ∈ lw_nest := lw_inN 232 (by decide +kernel) rfl
theorem qw234 : (Jvm.Cond.instanceMethod ({ cls := "ScoreHandles$Row", name := "get", desc := "(J)J" } : Jvm.MethodName)) ∈ lw_all := lw_in 234 (by decide +kernel) rfl
theorem qw235 : (Jvm.Cond.code ({ cls := "ScoreHandles$Row", name := "get", desc := "(J)J" } : Jvm.MethodName) prog_7_method_4_code (3 : Nat) (Option.some Jvm.ClassFile.FieldType.long)) ∈ lw_all := lw_in 235 (by decide +kernel) rfl
theorem qw236 : (Jvm.Cond.methodLink "ScoreHandlesLaw" (30 : Nat) ({ cls := "ScoreHandles", name := "size", desc := "(I)I" } : Jvm.MethodName)) ∈ lw_all := lw_in 236 (by decide +kernel) rfl
theorem qw237 : (Jvm.Cond.instanceMethod ({ cls := "ScoreHandles", name := "size", desc := "(I)I" } : Jvm.MethodName)) ∈ lw_all := lw_in 237 (by decide +kernel) rfl
theorem qw238 : (Jvm.Cond.selects "ScoreHandles" ({ cls := "ScoreHandles", name := "size", desc := "(I)I" } : Jvm.MethodName) ({ cls := "ScoreHandles", name := "size", desc := "(I)I" } : Jvm.MethodName)) ∈ lw_all := lw_in 238 (by decide +kernel) rfl
theorem qw239 : (Jvm.Cond.code ({ cls := "ScoreHandles", name := "size", desc := "(I)I" } : Jvm.MethodName) prog_1_method_5_code (3 : Nat) (Option.some Jvm.ClassFile.FieldType.int)) ∈ lw_all := lw_in 239 (by decide +kernel) rfl
theorem qn240 : (Jvm.Cond.methodLinkNest "ScoreHandles" (88 : Nat) ({ cls := "ScoreHandles$Row", name := "many", desc := "()I" } : Jvm.MethodName) "ScoreHandles") ∈ lw_nest := lw_inN 240 (by decide +kernel) rfl
theorem qw242 : (Jvm.Cond.instanceMethod ({ cls := "ScoreHandles$Row", name := "many", desc := "()I" } : Jvm.MethodName)) ∈ lw_all := lw_in 242 (by decide +kernel) rfl
theorem qw243 : (Jvm.Cond.code ({ cls := "ScoreHandles$Row", name := "many", desc := "()I" } : Jvm.MethodName) prog_7_method_2_code (1 : Nat) (Option.some Jvm.ClassFile.FieldType.int)) ∈ lw_all := lw_in 243 (by decide +kernel) rfl
theorem qw244 : (Jvm.Cond.methodLink "ScoreHandlesLaw" (35 : Nat) ({ cls := "ScoreHandles", name := "type", desc := "(IIIIII)I" } : Jvm.MethodName)) ∈ lw_all := lw_in 244 (by decide +kernel) rfl
theorem qw245 : (Jvm.Cond.instanceMethod ({ cls := "ScoreHandles", name := "type", desc := "(IIIIII)I" } : Jvm.MethodName)) ∈ lw_all := lw_in 245 (by decide +kernel) rfl
theorem qw246 : (Jvm.Cond.selects "ScoreHandles" ({ cls := "ScoreHandles", name := "type", desc := "(IIIIII)I" } : Jvm.MethodName) ({ cls := "ScoreHandles", name := "type", desc := "(IIIIII)I" } : Jvm.MethodName)) ∈ lw_all := lw_in 246 (by decide +kernel) rfl
theorem qw247 : (Jvm.Cond.code ({ cls := "ScoreHandles", name := "type", desc := "(IIIIII)I" } : Jvm.MethodName) prog_1_method_6_code (9 : Nat) (Option.some Jvm.ClassFile.FieldType.int)) ∈ lw_all := lw_in 247 (by decide +kernel) rfl
theorem qn248 : (Jvm.Cond.methodLinkNest "ScoreHandles" (92 : Nat) ({ cls := "ScoreHandles$Kind", name := "isKind", desc := "(I)Z" } : Jvm.MethodName) "ScoreHandles") ∈ lw_nest := lw_inN 248 (by decide +kernel) rfl
theorem qw249 : (Jvm.Cond.static ({ cls := "ScoreHandles$Kind", name := "isKind", desc := "(I)Z" } : Jvm.MethodName)) ∈ lw_all := lw_in 249 (by decide +kernel) rfl
theorem qw250 : (Jvm.Cond.code ({ cls := "ScoreHandles$Kind", name := "isKind", desc := "(I)Z" } : Jvm.MethodName) prog_4_method_2_code (1 : Nat) (Option.some Jvm.ClassFile.FieldType.boolean)) ∈ lw_all := lw_in 250 (by decide +kernel) rfl
theorem qw251 : (Jvm.Cond.methodLink "ScoreHandlesLaw" (40 : Nat) ({ cls := "ScoreHandles", name := "make", desc := "(IIIIJ)I" } : Jvm.MethodName)) ∈ lw_all := lw_in 251 (by decide +kernel) rfl
theorem qw252 : (Jvm.Cond.instanceMethod ({ cls := "ScoreHandles", name := "make", desc := "(IIIIJ)I" } : Jvm.MethodName)) ∈ lw_all := lw_in 252 (by decide +kernel) rfl
theorem qw253 : (Jvm.Cond.selects "ScoreHandles" ({ cls := "ScoreHandles", name := "make", desc := "(IIIIJ)I" } : Jvm.MethodName) ({ cls := "ScoreHandles", name := "make", desc := "(IIIIJ)I" } : Jvm.MethodName)) ∈ lw_all := lw_in 253 (by decide +kernel) rfl
theorem qw254 : (Jvm.Cond.code ({ cls := "ScoreHandles", name := "make", desc := "(IIIIJ)I" } : Jvm.MethodName) prog_1_method_7_code (9 : Nat) (Option.some Jvm.ClassFile.FieldType.int)) ∈ lw_all := lw_in 254 (by decide +kernel) rfl
theorem qw255 : (Jvm.Cond.classLink "ScoreHandles" (95 : Nat) "ScoreHandles$Handle") ∈ lw_all := lw_in 255 (by decide +kernel) rfl
theorem qw256 : (Jvm.Cond.instantiable "ScoreHandles$Handle" (7 : Nat)) ∈ lw_all := lw_in 256 (by decide +kernel) rfl
theorem qn257 : (Jvm.Cond.methodLinkNest "ScoreHandles" (97 : Nat) ({ cls := "ScoreHandles$Handle", name := "<init>", desc := "(IIIIJ)V" } : Jvm.MethodName) "ScoreHandles") ∈ lw_nest := lw_inN 257 (by decide +kernel) rfl
theorem qw258 : (Jvm.Cond.instanceMethod ({ cls := "ScoreHandles$Handle", name := "<init>", desc := "(IIIIJ)V" } : Jvm.MethodName)) ∈ lw_all := lw_in 258 (by decide +kernel) rfl
theorem qw259 : (Jvm.Cond.code ({ cls := "ScoreHandles$Handle", name := "<init>", desc := "(IIIIJ)V" } : Jvm.MethodName) prog_2_method_1_code (7 : Nat) (Option.none : Option Jvm.ClassFile.FieldType)) ∈ lw_all := lw_in 259 (by decide +kernel) rfl
theorem qw260 : (Jvm.Cond.methodLink "ScoreHandles$Handle" (3 : Nat) ({ cls := "java/lang/Object", name := "<init>", desc := "()V" } : Jvm.MethodName)) ∈ lw_all := lw_in 260 (by decide +kernel) rfl
theorem qw261 : (Jvm.Cond.constant "ScoreHandles$Handle" (20 : Nat) (2071040 : Int32)) ∈ lw_all := lw_in 261 (by decide +kernel) rfl
theorem qn262 : (Jvm.Cond.methodLinkNest "ScoreHandles$Handle" (21 : Nat) ({ cls := "ScoreHandles$Sort", name := "isAmong", desc := "(II)Z" } : Jvm.MethodName) "ScoreHandles") ∈ lw_nest := lw_inN 262 (by decide +kernel) rfl
theorem qw263 : (Jvm.Cond.static ({ cls := "ScoreHandles$Sort", name := "isAmong", desc := "(II)Z" } : Jvm.MethodName)) ∈ lw_all := lw_in 263 (by decide +kernel) rfl
theorem qw264 : (Jvm.Cond.code ({ cls := "ScoreHandles$Sort", name := "isAmong", desc := "(II)Z" } : Jvm.MethodName) prog_10_method_3_code (2 : Nat) (Option.some Jvm.ClassFile.FieldType.boolean)) ∈ lw_all := lw_in 264 (by decide +kernel) rfl
theorem qw265 : (Jvm.Cond.methodLink "ScoreHandles$Sort" (9 : Nat) ({ cls := "ScoreHandles$Sort", name := "isSort", desc := "(I)Z" } : Jvm.MethodName)) ∈ lw_all := lw_in 265 (by decide +kernel) rfl
theorem qw266 : (Jvm.Cond.static ({ cls := "ScoreHandles$Sort", name := "isSort", desc := "(I)Z" } : Jvm.MethodName)) ∈ lw_all := lw_in 266 (by decide +kernel) rfl
theorem qw267 : (Jvm.Cond.code ({ cls := "ScoreHandles$Sort", name := "isSort", desc := "(I)Z" } : Jvm.MethodName) prog_10_method_2_code (1 : Nat) (Option.some Jvm.ClassFile.FieldType.boolean)) ∈ lw_all := lw_in 267 (by decide +kernel) rfl
theorem qw268 : (Jvm.Cond.constant "ScoreHandles$Handle" (28 : Nat) (821248 : Int32)) ∈ lw_all := lw_in 268 (by decide +kernel) rfl
theorem qw269 : (Jvm.Cond.fieldLink "ScoreHandles$Handle" (9 : Nat) "ScoreHandles$Handle" "sort" "I") ∈ lw_all := lw_in 269 (by decide +kernel) rfl
theorem qn270 : (Jvm.Cond.fieldLinkNest "ScoreHandles$Maker" (19 : Nat) "ScoreHandles$Handle" "sort" "I" "ScoreHandles") ∈ lw_nest := lw_inN 270 (by decide +kernel) rfl
theorem qn271 : (Jvm.Cond.fieldLinkNest "ScoreHandles" (123 : Nat) "ScoreHandles$Handle" "sort" "I" "ScoreHandles") ∈ lw_nest := lw_inN 271 (by decide +kernel) rfl
theorem qn272 : (Jvm.Cond.fieldLinkNest "ScoreHandles$Runner" (68 : Nat) "ScoreHandles$Handle" "sort" "I" "ScoreHandles") ∈ lw_nest := lw_inN 272 (by decide +kernel) rfl
theorem qw273 : (Jvm.Cond.fieldLink "ScoreHandles$Handle" (15 : Nat) "ScoreHandles$Handle" "a" "I") ∈ lw_all := lw_in 273 (by decide +kernel) rfl
theorem qn274 : (Jvm.Cond.fieldLinkNest "ScoreHandles$Maker" (55 : Nat) "ScoreHandles$Handle" "a" "I" "ScoreHandles") ∈ lw_nest := lw_inN 274 (by decide +kernel) rfl
theorem qn275 : (Jvm.Cond.fieldLinkNest "ScoreHandles$Runner" (71 : Nat) "ScoreHandles$Handle" "a" "I" "ScoreHandles") ∈ lw_nest := lw_inN 275 (by decide +kernel) rfl
theorem qw276 : (Jvm.Cond.fieldLink "ScoreHandles$Handle" (25 : Nat) "ScoreHandles$Handle" "b" "I") ∈ lw_all := lw_in 276 (by decide +kernel) rfl
theorem qn277 : (Jvm.Cond.fieldLinkNest "ScoreHandles$Maker" (75 : Nat) "ScoreHandles$Handle" "b" "I" "ScoreHandles") ∈ lw_nest := lw_inN 277 (by decide +kernel) rfl
theorem qn278 : (Jvm.Cond.fieldLinkNest "ScoreHandles$Runner" (135 : Nat) "ScoreHandles$Handle" "b" "I" "ScoreHandles") ∈ lw_nest := lw_inN 278 (by decide +kernel) rfl
theorem qw279 : (Jvm.Cond.fieldLink "ScoreHandles$Handle" (29 : Nat) "ScoreHandles$Handle" "c" "I") ∈ lw_all := lw_in 279 (by decide +kernel) rfl
theorem qn280 : (Jvm.Cond.fieldLinkNest "ScoreHandles$Maker" (85 : Nat) "ScoreHandles$Handle" "c" "I" "ScoreHandles") ∈ lw_nest := lw_inN 280 (by decide +kernel) rfl
theorem qn281 : (Jvm.Cond.fieldLinkNest "ScoreHandles$Runner" (201 : Nat) "ScoreHandles$Handle" "c" "I" "ScoreHandles") ∈ lw_nest := lw_inN 281 (by decide +kernel) rfl
theorem qw282 : (Jvm.Cond.fieldLink "ScoreHandles$Handle" (32 : Nat) "ScoreHandles$Handle" "v" "J") ∈ lw_all := lw_in 282 (by decide +kernel) rfl
theorem qn283 : (Jvm.Cond.fieldLinkNest "ScoreHandles$Maker" (45 : Nat) "ScoreHandles$Handle" "v" "J" "ScoreHandles") ∈ lw_nest := lw_inN 283 (by decide +kernel) rfl
theorem qn284 : (Jvm.Cond.fieldLinkNest "ScoreHandles$Runner" (117 : Nat) "ScoreHandles$Handle" "v" "J" "ScoreHandles") ∈ lw_nest := lw_inN 284 (by decide +kernel) rfl
theorem qw285 : (Jvm.Cond.fieldLink "ScoreHandles$Handle" (39 : Nat) "ScoreHandles$Handle" "type" "LScoreHandles$Type;") ∈ lw_all := lw_in 285 (by decide +kernel) rfl
theorem qn286 : (Jvm.Cond.fieldLinkNest "ScoreHandles$Handles" (25 : Nat) "ScoreHandles$Handle" "type" "LScoreHandles$Type;" "ScoreHandles") ∈ lw_nest := lw_inN 286 (by decide +kernel) rfl
theorem qn287 : (Jvm.Cond.fieldLinkNest "ScoreHandles" (126 : Nat) "ScoreHandles$Handle" "type" "LScoreHandles$Type;" "ScoreHandles") ∈ lw_nest := lw_inN 287 (by decide +kernel) rfl
theorem qn288 : (Jvm.Cond.fieldLinkNest "ScoreHandles$Runner" (204 : Nat) "ScoreHandles$Handle" "type" "LScoreHandles$Type;" "ScoreHandles") ∈ lw_nest := lw_inN 288 (by decide +kernel) rfl
theorem qw289 : (Jvm.Cond.fieldLink "ScoreHandles$Handle" (36 : Nat) "ScoreHandles$Handle" "number" "I") ∈ lw_all := lw_in 289 (by decide +kernel) rfl
theorem qn290 : (Jvm.Cond.fieldLinkNest "ScoreHandles$Handles" (33 : Nat) "ScoreHandles$Handle" "number" "I" "ScoreHandles") ∈ lw_nest := lw_inN 290 (by decide +kernel) rfl
theorem qn291 : (Jvm.Cond.fieldLinkNest "ScoreHandles$Runner" (53 : Nat) "ScoreHandles$Handle" "number" "I" "ScoreHandles") ∈ lw_nest := lw_inN 291 (by decide +kernel) rfl
theorem qw292 : (Jvm.Cond.laysFinal "ScoreHandles$Handle" "ScoreHandles$Handle" "sort" "I") ∈ lw_all := lw_in 292 (by decide +kernel) rfl
theorem qw294 : (Jvm.Cond.laysFinal "ScoreHandles$Handle" "ScoreHandles$Handle" "a" "I") ∈ lw_all := lw_in 294 (by decide +kernel) rfl
theorem qw296 : (Jvm.Cond.laysFinal "ScoreHandles$Handle" "ScoreHandles$Handle" "b" "I") ∈ lw_all := lw_in 296 (by decide +kernel) rfl
theorem qw298 : (Jvm.Cond.laysFinal "ScoreHandles$Handle" "ScoreHandles$Handle" "c" "I") ∈ lw_all := lw_in 298 (by decide +kernel) rfl
theorem qw300 : (Jvm.Cond.lays "ScoreHandles$Handle" "ScoreHandles$Handle" "v" "J") ∈ lw_all := lw_in 300 (by decide +kernel) rfl
theorem qw302 : (Jvm.Cond.lays "ScoreHandles$Handle" "ScoreHandles$Handle" "type" "LScoreHandles$Type;") ∈ lw_all := lw_in 302 (by decide +kernel) rfl
theorem qw304 : (Jvm.Cond.lays "ScoreHandles$Handle" "ScoreHandles$Handle" "number" "I") ∈ lw_all := lw_in 304 (by decide +kernel) rfl
theorem qn307 : (Jvm.Cond.methodLinkNest "ScoreHandles" (100 : Nat) ({ cls := "ScoreHandles$Maker", name := "isTold", desc := "(LScoreHandles$Handle;)Z" } : Jvm.MethodName) "ScoreHandles") ∈ lw_nest := lw_inN 307 (by decide +kernel) rfl
theorem qw309 : (Jvm.Cond.instanceMethod ({ cls := "ScoreHandles$Maker", name := "isTold", desc := "(LScoreHandles$Handle;)Z" } : Jvm.MethodName)) ∈ lw_all := lw_in 309 (by decide +kernel) rfl
theorem qw310 : (Jvm.Cond.code ({ cls := "ScoreHandles$Maker", name := "isTold", desc := "(LScoreHandles$Handle;)Z" } : Jvm.MethodName) prog_5_method_2_code (2 : Nat) (Option.some Jvm.ClassFile.FieldType.boolean)) ∈ lw_all := lw_in 310 (by decide +kernel) rfl
theorem qn311 : (Jvm.Cond.methodLinkNest "ScoreHandles$Maker" (25 : Nat) ({ cls := "ScoreHandles$Sort", name := "isSort", desc := "(I)Z" } : Jvm.MethodName) "ScoreHandles") ∈ lw_nest := lw_inN 311 (by decide +kernel) rfl
theorem qw312 : (Jvm.Cond.methodLink "ScoreHandles$Maker" (31 : Nat) ({ cls := "ScoreHandles$Maker", name := "isFirstTold", desc := "(LScoreHandles$Handle;)Z" } : Jvm.MethodName)) ∈ lw_all := lw_in 312 (by decide +kernel) rfl
theorem qw314 : (Jvm.Cond.instanceMethod ({ cls := "ScoreHandles$Maker", name := "isFirstTold", desc := "(LScoreHandles$Handle;)Z" } : Jvm.MethodName)) ∈ lw_all := lw_in 314 (by decide +kernel) rfl
theorem qw315 : (Jvm.Cond.code ({ cls := "ScoreHandles$Maker", name := "isFirstTold", desc := "(LScoreHandles$Handle;)Z" } : Jvm.MethodName) prog_5_method_3_code (2 : Nat) (Option.some Jvm.ClassFile.FieldType.boolean)) ∈ lw_all := lw_in 315 (by decide +kernel) rfl
theorem qn316 : (Jvm.Cond.methodLinkNest "ScoreHandles$Maker" (58 : Nat) ({ cls := "ScoreHandles$Kind", name := "isKind", desc := "(I)Z" } : Jvm.MethodName) "ScoreHandles") ∈ lw_nest := lw_inN 316 (by decide +kernel) rfl
theorem qn317 : (Jvm.Cond.methodLinkNest "ScoreHandles$Maker" (63 : Nat) ({ cls := "ScoreHandles$Kind", name := "isLane", desc := "(I)Z" } : Jvm.MethodName) "ScoreHandles") ∈ lw_nest := lw_inN 317 (by decide +kernel) rfl
theorem qn318 : (Jvm.Cond.methodLinkNest "ScoreHandles$Maker" (66 : Nat) ({ cls := "ScoreHandles$Kind", name := "isReckoned", desc := "(I)Z" } : Jvm.MethodName) "ScoreHandles") ∈ lw_nest := lw_inN 318 (by decide +kernel) rfl
theorem qw319 : (Jvm.Cond.static ({ cls := "ScoreHandles$Kind", name := "isReckoned", desc := "(I)Z" } : Jvm.MethodName)) ∈ lw_all := lw_in 319 (by decide +kernel) rfl
theorem qw320 : (Jvm.Cond.code ({ cls := "ScoreHandles$Kind", name := "isReckoned", desc := "(I)Z" } : Jvm.MethodName) prog_4_method_4_code (1 : Nat) (Option.some Jvm.ClassFile.FieldType.boolean)) ∈ lw_all := lw_in 320 (by decide +kernel) rfl
theorem qn321 : (Jvm.Cond.methodLinkNest "ScoreHandles$Maker" (69 : Nat) ({ cls := "ScoreHandles$Handles", name := "at", desc := "(I)LScoreHandles$Handle;" } : Jvm.MethodName) "ScoreHandles") ∈ lw_nest := lw_inN 321 (by decide +kernel) rfl
theorem qw323 : (Jvm.Cond.instanceMethod ({ cls := "ScoreHandles$Handles", name := "at", desc := "(I)LScoreHandles$Handle;" } : Jvm.MethodName)) ∈ lw_all := lw_in 323 (by decide +kernel) rfl
theorem qw324 : (Jvm.Cond.code ({ cls := "ScoreHandles$Handles", name := "at", desc := "(I)LScoreHandles$Handle;" } : Jvm.MethodName) prog_3_method_2_code (2 : Nat) (Option.some (Jvm.ClassFile.FieldType.object "ScoreHandles$Handle"))) ∈ lw_all := lw_in 324 (by decide +kernel) rfl
theorem qw325 : (Jvm.Cond.methodLink "ScoreHandles$Maker" (35 : Nat) ({ cls := "ScoreHandles$Maker", name := "isSecondTold", desc := "(LScoreHandles$Handle;)Z" } : Jvm.MethodName)) ∈ lw_all := lw_in 325 (by decide +kernel) rfl
theorem qw327 : (Jvm.Cond.instanceMethod ({ cls := "ScoreHandles$Maker", name := "isSecondTold", desc := "(LScoreHandles$Handle;)Z" } : Jvm.MethodName)) ∈ lw_all := lw_in 327 (by decide +kernel) rfl
theorem qw328 : (Jvm.Cond.code ({ cls := "ScoreHandles$Maker", name := "isSecondTold", desc := "(LScoreHandles$Handle;)Z" } : Jvm.MethodName) prog_5_method_4_code (3 : Nat) (Option.some Jvm.ClassFile.FieldType.boolean)) ∈ lw_all := lw_in 328 (by decide +kernel) rfl
theorem qw329 : (Jvm.Cond.methodLink "ScoreHandles$Maker" (78 : Nat) ({ cls := "ScoreHandles$Maker", name := "parametersOf", desc := "(I)I" } : Jvm.MethodName)) ∈ lw_all := lw_in 329 (by decide +kernel) rfl
theorem qw331 : (Jvm.Cond.instanceMethod ({ cls := "ScoreHandles$Maker", name := "parametersOf", desc := "(I)I" } : Jvm.MethodName)) ∈ lw_all := lw_in 331 (by decide +kernel) rfl
theorem qw332 : (Jvm.Cond.code ({ cls := "ScoreHandles$Maker", name := "parametersOf", desc := "(I)I" } : Jvm.MethodName) prog_5_method_7_code (3 : Nat) (Option.some Jvm.ClassFile.FieldType.int)) ∈ lw_all := lw_in 332 (by decide +kernel) rfl
theorem qn333 : (Jvm.Cond.methodLinkNest "ScoreHandles$Maker" (90 : Nat) ({ cls := "ScoreHandles$Handles", name := "typeAt", desc := "(I)LScoreHandles$Type;" } : Jvm.MethodName) "ScoreHandles") ∈ lw_nest := lw_inN 333 (by decide +kernel) rfl
theorem qw335 : (Jvm.Cond.instanceMethod ({ cls := "ScoreHandles$Handles", name := "typeAt", desc := "(I)LScoreHandles$Type;" } : Jvm.MethodName)) ∈ lw_all := lw_in 335 (by decide +kernel) rfl
theorem qw336 : (Jvm.Cond.code ({ cls := "ScoreHandles$Handles", name := "typeAt", desc := "(I)LScoreHandles$Type;" } : Jvm.MethodName) prog_3_method_3_code (3 : Nat) (Option.some (Jvm.ClassFile.FieldType.object "ScoreHandles$Type"))) ∈ lw_all := lw_in 336 (by decide +kernel) rfl
theorem qw337 : (Jvm.Cond.methodLink "ScoreHandles$Handles" (21 : Nat) ({ cls := "ScoreHandles$Handles", name := "at", desc := "(I)LScoreHandles$Handle;" } : Jvm.MethodName)) ∈ lw_all := lw_in 337 (by decide +kernel) rfl
theorem qw338 : (Jvm.Cond.methodLink "ScoreHandles$Maker" (82 : Nat) ({ cls := "ScoreHandles$Maker", name := "isHeld", desc := "(I)Z" } : Jvm.MethodName)) ∈ lw_all := lw_in 338 (by decide +kernel) rfl
theorem qw339 : (Jvm.Cond.static ({ cls := "ScoreHandles$Maker", name := "isHeld", desc := "(I)Z" } : Jvm.MethodName)) ∈ lw_all := lw_in 339 (by decide +kernel) rfl
theorem qw340 : (Jvm.Cond.code ({ cls := "ScoreHandles$Maker", name := "isHeld", desc := "(I)Z" } : Jvm.MethodName) prog_5_method_6_code (1 : Nat) (Option.some Jvm.ClassFile.FieldType.boolean)) ∈ lw_all := lw_in 340 (by decide +kernel) rfl
theorem qw341 : (Jvm.Cond.methodLink "ScoreHandles$Maker" (38 : Nat) ({ cls := "ScoreHandles$Maker", name := "isThirdTold", desc := "(LScoreHandles$Handle;)Z" } : Jvm.MethodName)) ∈ lw_all := lw_in 341 (by decide +kernel) rfl
theorem qw343 : (Jvm.Cond.instanceMethod ({ cls := "ScoreHandles$Maker", name := "isThirdTold", desc := "(LScoreHandles$Handle;)Z" } : Jvm.MethodName)) ∈ lw_all := lw_in 343 (by decide +kernel) rfl
theorem qw344 : (Jvm.Cond.code ({ cls := "ScoreHandles$Maker", name := "isThirdTold", desc := "(LScoreHandles$Handle;)Z" } : Jvm.MethodName) prog_5_method_5_code (2 : Nat) (Option.some Jvm.ClassFile.FieldType.boolean)) ∈ lw_all := lw_in 344 (by decide +kernel) rfl
theorem qw345 : (Jvm.Cond.methodLink "ScoreHandles$Maker" (41 : Nat) ({ cls := "ScoreHandles$Maker", name := "kindOfBits", desc := "(LScoreHandles$Handle;)I" } : Jvm.MethodName)) ∈ lw_all := lw_in 345 (by decide +kernel) rfl
theorem qw347 : (Jvm.Cond.instanceMethod ({ cls := "ScoreHandles$Maker", name := "kindOfBits", desc := "(LScoreHandles$Handle;)I" } : Jvm.MethodName)) ∈ lw_all := lw_in 347 (by decide +kernel) rfl
theorem qw348 : (Jvm.Cond.code ({ cls := "ScoreHandles$Maker", name := "kindOfBits", desc := "(LScoreHandles$Handle;)I" } : Jvm.MethodName) prog_5_method_8_code (3 : Nat) (Option.some Jvm.ClassFile.FieldType.int)) ∈ lw_all := lw_in 348 (by decide +kernel) rfl
theorem qn349 : (Jvm.Cond.methodLinkNest "ScoreHandles$Maker" (99 : Nat) ({ cls := "ScoreHandles$Type", name := "kind", desc := "(I)I" } : Jvm.MethodName) "ScoreHandles") ∈ lw_nest := lw_inN 349 (by decide +kernel) rfl
theorem qw351 : (Jvm.Cond.instanceMethod ({ cls := "ScoreHandles$Type", name := "kind", desc := "(I)I" } : Jvm.MethodName)) ∈ lw_all := lw_in 351 (by decide +kernel) rfl
theorem qw352 : (Jvm.Cond.code ({ cls := "ScoreHandles$Type", name := "kind", desc := "(I)I" } : Jvm.MethodName) prog_11_method_3_code (3 : Nat) (Option.some Jvm.ClassFile.FieldType.int)) ∈ lw_all := lw_in 352 (by decide +kernel) rfl
theorem qn353 : (Jvm.Cond.methodLinkNest "ScoreHandles$Maker" (49 : Nat) ({ cls := "ScoreHandles$Rows", name := "mayBe", desc := "(IJ)Z" } : Jvm.MethodName) "ScoreHandles") ∈ lw_nest := lw_inN 353 (by decide +kernel) rfl
theorem qw355 : (Jvm.Cond.instanceMethod ({ cls := "ScoreHandles$Rows", name := "mayBe", desc := "(IJ)Z" } : Jvm.MethodName)) ∈ lw_all := lw_in 355 (by decide +kernel) rfl
theorem qw356 : (Jvm.Cond.code ({ cls := "ScoreHandles$Rows", name := "mayBe", desc := "(IJ)Z" } : Jvm.MethodName) prog_8_method_4_code (5 : Nat) (Option.some Jvm.ClassFile.FieldType.boolean)) ∈ lw_all := lw_in 356 (by decide +kernel) rfl
theorem qn357 : (Jvm.Cond.methodLinkNest "ScoreHandles$Rows" (24 : Nat) ({ cls := "ScoreHandles$Kind", name := "isRow", desc := "(I)Z" } : Jvm.MethodName) "ScoreHandles") ∈ lw_nest := lw_inN 357 (by decide +kernel) rfl
theorem qw358 : (Jvm.Cond.static ({ cls := "ScoreHandles$Kind", name := "isRow", desc := "(I)Z" } : Jvm.MethodName)) ∈ lw_all := lw_in 358 (by decide +kernel) rfl
theorem qw359 : (Jvm.Cond.code ({ cls := "ScoreHandles$Kind", name := "isRow", desc := "(I)Z" } : Jvm.MethodName) prog_4_method_5_code (1 : Nat) (Option.some Jvm.ClassFile.FieldType.boolean)) ∈ lw_all := lw_in 359 (by decide +kernel) rfl
theorem qw360 : (Jvm.Cond.constantLong "ScoreHandles$Rows" (30 : Nat) (-1 : Int64)) ∈ lw_all := lw_in 360 (by decide +kernel) rfl
theorem qw361 : (Jvm.Cond.methodLink "ScoreHandles$Rows" (32 : Nat) ({ cls := "ScoreHandles$Rows", name := "at", desc := "(J)LScoreHandles$Row;" } : Jvm.MethodName)) ∈ lw_all := lw_in 361 (by decide +kernel) rfl
theorem qn362 : (Jvm.Cond.methodLinkNest "ScoreHandles" (104 : Nat) ({ cls := "ScoreHandles$Maker", name := "typeOf", desc := "(LScoreHandles$Handle;LScoreHandles$Type;)LScoreHandles$Type;" } : Jvm.MethodName) "ScoreHandles") ∈ lw_nest := lw_inN 362 (by decide +kernel) rfl
theorem qw364 : (Jvm.Cond.instanceMethod ({ cls := "ScoreHandles$Maker", name := "typeOf", desc := "(LScoreHandles$Handle;LScoreHandles$Type;)LScoreHandles$Type;" } : Jvm.MethodName)) ∈ lw_all := lw_in 364 (by decide +kernel) rfl
theorem qw365 : (Jvm.Cond.code ({ cls := "ScoreHandles$Maker", name := "typeOf", desc := "(LScoreHandles$Handle;LScoreHandles$Type;)LScoreHandles$Type;" } : Jvm.MethodName) prog_5_method_10_code (5 : Nat) (Option.some (Jvm.ClassFile.FieldType.object "ScoreHandles$Type"))) ∈ lw_all := lw_in 365 (by decide +kernel) rfl
theorem qw366 : (Jvm.Cond.methodLink "ScoreHandles$Maker" (106 : Nat) ({ cls := "ScoreHandles$Maker", name := "typeAlone", desc := "(LScoreHandles$Handle;)LScoreHandles$Type;" } : Jvm.MethodName)) ∈ lw_all := lw_in 366 (by decide +kernel) rfl
theorem qw367 : (Jvm.Cond.static ({ cls := "ScoreHandles$Maker", name := "typeAlone", desc := "(LScoreHandles$Handle;)LScoreHandles$Type;" } : Jvm.MethodName)) ∈ lw_all := lw_in 367 (by decide +kernel) rfl
theorem qw368 : (Jvm.Cond.code ({ cls := "ScoreHandles$Maker", name := "typeAlone", desc := "(LScoreHandles$Handle;)LScoreHandles$Type;" } : Jvm.MethodName) prog_5_method_11_code (3 : Nat) (Option.some (Jvm.ClassFile.FieldType.object "ScoreHandles$Type"))) ∈ lw_all := lw_in 368 (by decide +kernel) rfl
theorem qn369 : (Jvm.Cond.methodLinkNest "ScoreHandles$Maker" (132 : Nat) ({ cls := "ScoreHandles$Type", name := "of", desc := "(IIIII)LScoreHandles$Type;" } : Jvm.MethodName) "ScoreHandles") ∈ lw_nest := lw_inN 369 (by decide +kernel) rfl
theorem qw370 : (Jvm.Cond.static ({ cls := "ScoreHandles$Type", name := "of", desc := "(IIIII)LScoreHandles$Type;" } : Jvm.MethodName)) ∈ lw_all := lw_in 370 (by decide +kernel) rfl
theorem qw371 : (Jvm.Cond.code ({ cls := "ScoreHandles$Type", name := "of", desc := "(IIIII)LScoreHandles$Type;" } : Jvm.MethodName) prog_11_method_2_code (6 : Nat) (Option.some (Jvm.ClassFile.FieldType.object "ScoreHandles$Type"))) ∈ lw_all := lw_in 371 (by decide +kernel) rfl
theorem qw372 : (Jvm.Cond.classLink "ScoreHandles$Type" (10 : Nat) "ScoreHandles$Type") ∈ lw_all := lw_in 372 (by decide +kernel) rfl
theorem qw373 : (Jvm.Cond.methodLink "ScoreHandles$Type" (22 : Nat) ({ cls := "ScoreHandles$Type", name := "<init>", desc := "(II[I)V" } : Jvm.MethodName)) ∈ lw_all := lw_in 373 (by decide +kernel) rfl
theorem qn374 : (Jvm.Cond.methodLinkNest "ScoreHandles$Maker" (110 : Nat) ({ cls := "ScoreHandles$Type", name := "longer", desc := "(II)LScoreHandles$Type;" } : Jvm.MethodName) "ScoreHandles") ∈ lw_nest := lw_inN 374 (by decide +kernel) rfl
theorem qw376 : (Jvm.Cond.instanceMethod ({ cls := "ScoreHandles$Type", name := "longer", desc := "(II)LScoreHandles$Type;" } : Jvm.MethodName)) ∈ lw_all := lw_in 376 (by decide +kernel) rfl
theorem qw377 : (Jvm.Cond.code ({ cls := "ScoreHandles$Type", name := "longer", desc := "(II)LScoreHandles$Type;" } : Jvm.MethodName) prog_11_method_10_code (5 : Nat) (Option.some (Jvm.ClassFile.FieldType.object "ScoreHandles$Type"))) ∈ lw_all := lw_in 377 (by decide +kernel) rfl
theorem qw378 : (Jvm.Cond.methodLink "ScoreHandles$Type" (35 : Nat) ({ cls := "ScoreHandles$Type", name := "kind", desc := "(I)I" } : Jvm.MethodName)) ∈ lw_all := lw_in 378 (by decide +kernel) rfl
theorem qw379 : (Jvm.Cond.methodLink "ScoreHandles$Type" (43 : Nat) ({ cls := "java/lang/Math", name := "min", desc := "(II)I" } : Jvm.MethodName)) ∈ lw_all := lw_in 379 (by decide +kernel) rfl
theorem qn380 : (Jvm.Cond.methodLinkNest "ScoreHandles$Maker" (114 : Nat) ({ cls := "ScoreHandles$Type", name := "swapped", desc := "(I)LScoreHandles$Type;" } : Jvm.MethodName) "ScoreHandles") ∈ lw_nest := lw_inN 380 (by decide +kernel) rfl
theorem qw382 : (Jvm.Cond.instanceMethod ({ cls := "ScoreHandles$Type", name := "swapped", desc := "(I)LScoreHandles$Type;" } : Jvm.MethodName)) ∈ lw_all := lw_in 382 (by decide +kernel) rfl
theorem qw383 : (Jvm.Cond.code ({ cls := "ScoreHandles$Type", name := "swapped", desc := "(I)LScoreHandles$Type;" } : Jvm.MethodName) prog_11_method_9_code (2 : Nat) (Option.some (Jvm.ClassFile.FieldType.object "ScoreHandles$Type"))) ∈ lw_all := lw_in 383 (by decide +kernel) rfl
theorem qw384 : (Jvm.Cond.methodLink "ScoreHandles$Type" (39 : Nat) ({ cls := "ScoreHandles$Type", name := "changed", desc := "(II)LScoreHandles$Type;" } : Jvm.MethodName)) ∈ lw_all := lw_in 384 (by decide +kernel) rfl
theorem qw386 : (Jvm.Cond.instanceMethod ({ cls := "ScoreHandles$Type", name := "changed", desc := "(II)LScoreHandles$Type;" } : Jvm.MethodName)) ∈ lw_all := lw_in 386 (by decide +kernel) rfl
theorem qw387 : (Jvm.Cond.code ({ cls := "ScoreHandles$Type", name := "changed", desc := "(II)LScoreHandles$Type;" } : Jvm.MethodName) prog_11_method_8_code (5 : Nat) (Option.some (Jvm.ClassFile.FieldType.object "ScoreHandles$Type"))) ∈ lw_all := lw_in 387 (by decide +kernel) rfl
theorem qn388 : (Jvm.Cond.methodLinkNest "ScoreHandles$Maker" (117 : Nat) ({ cls := "ScoreHandles$Type", name := "withoutFirst", desc := "()LScoreHandles$Type;" } : Jvm.MethodName) "ScoreHandles") ∈ lw_nest := lw_inN 388 (by decide +kernel) rfl
theorem qw390 : (Jvm.Cond.instanceMethod ({ cls := "ScoreHandles$Type", name := "withoutFirst", desc := "()LScoreHandles$Type;" } : Jvm.MethodName)) ∈ lw_all := lw_in 390 (by decide +kernel) rfl
theorem qw391 : (Jvm.Cond.code ({ cls := "ScoreHandles$Type", name := "withoutFirst", desc := "()LScoreHandles$Type;" } : Jvm.MethodName) prog_11_method_11_code (3 : Nat) (Option.some (Jvm.ClassFile.FieldType.object "ScoreHandles$Type"))) ∈ lw_all := lw_in 391 (by decide +kernel) rfl
theorem qw392 : (Jvm.Cond.methodLink "ScoreHandles$Type" (49 : Nat) ({ cls := "java/lang/Math", name := "max", desc := "(II)I" } : Jvm.MethodName)) ∈ lw_all := lw_in 392 (by decide +kernel) rfl
theorem qn393 : (Jvm.Cond.methodLinkNest "ScoreHandles$Maker" (124 : Nat) ({ cls := "ScoreHandles$Type", name := "goesTo", desc := "(LScoreHandles$Type;)Z" } : Jvm.MethodName) "ScoreHandles") ∈ lw_nest := lw_inN 393 (by decide +kernel) rfl
theorem qw395 : (Jvm.Cond.instanceMethod ({ cls := "ScoreHandles$Type", name := "goesTo", desc := "(LScoreHandles$Type;)Z" } : Jvm.MethodName)) ∈ lw_all := lw_in 395 (by decide +kernel) rfl
theorem qw396 : (Jvm.Cond.code ({ cls := "ScoreHandles$Type", name := "goesTo", desc := "(LScoreHandles$Type;)Z" } : Jvm.MethodName) prog_11_method_5_code (3 : Nat) (Option.some Jvm.ClassFile.FieldType.boolean)) ∈ lw_all := lw_in 396 (by decide +kernel) rfl
theorem qn397 : (Jvm.Cond.methodLinkNest "ScoreHandles$Type" (31 : Nat) ({ cls := "ScoreHandles$Kind", name := "goes", desc := "(II)Z" } : Jvm.MethodName) "ScoreHandles") ∈ lw_nest := lw_inN 397 (by decide +kernel) rfl
theorem qw398 : (Jvm.Cond.static ({ cls := "ScoreHandles$Kind", name := "goes", desc := "(II)Z" } : Jvm.MethodName)) ∈ lw_all := lw_in 398 (by decide +kernel) rfl
theorem qw399 : (Jvm.Cond.code ({ cls := "ScoreHandles$Kind", name := "goes", desc := "(II)Z" } : Jvm.MethodName) prog_4_method_6_code (2 : Nat) (Option.some Jvm.ClassFile.FieldType.boolean)) ∈ lw_all := lw_in 399 (by decide +kernel) rfl
theorem qw400 : (Jvm.Cond.methodLink "ScoreHandles$Kind" (11 : Nat) ({ cls := "ScoreHandles$Kind", name := "isRow", desc := "(I)Z" } : Jvm.MethodName)) ∈ lw_all := lw_in 400 (by decide +kernel) rfl
theorem qw401 : (Jvm.Cond.methodLink "ScoreHandles$Maker" (128 : Nat) ({ cls := "ScoreHandles$Maker", name := "typeOfSome", desc := "(LScoreHandles$Handle;LScoreHandles$Type;)LScoreHandles$Type;" } : Jvm.MethodName)) ∈ lw_all := lw_in 401 (by decide +kernel) rfl
theorem qw403 : (Jvm.Cond.instanceMethod ({ cls := "ScoreHandles$Maker", name := "typeOfSome", desc := "(LScoreHandles$Handle;LScoreHandles$Type;)LScoreHandles$Type;" } : Jvm.MethodName)) ∈ lw_all := lw_in 403 (by decide +kernel) rfl
theorem qw404 : (Jvm.Cond.code ({ cls := "ScoreHandles$Maker", name := "typeOfSome", desc := "(LScoreHandles$Handle;LScoreHandles$Type;)LScoreHandles$Type;" } : Jvm.MethodName) prog_5_method_12_code (5 : Nat) (Option.some (Jvm.ClassFile.FieldType.object "ScoreHandles$Type"))) ∈ lw_all := lw_in 404 (by decide +kernel) rfl
theorem qw405 : (Jvm.Cond.methodLink "ScoreHandles$Maker" (136 : Nat) ({ cls := "ScoreHandles$Maker", name := "typeOfFilter", desc := "(LScoreHandles$Type;ILScoreHandles$Type;)LScoreHandles$Type;" } : Jvm.MethodName)) ∈ lw_all := lw_in 405 (by decide +kernel) rfl
theorem qw406 : (Jvm.Cond.static ({ cls := "ScoreHandles$Maker", name := "typeOfFilter", desc := "(LScoreHandles$Type;ILScoreHandles$Type;)LScoreHandles$Type;" } : Jvm.MethodName)) ∈ lw_all := lw_in 406 (by decide +kernel) rfl
theorem qw407 : (Jvm.Cond.code ({ cls := "ScoreHandles$Maker", name := "typeOfFilter", desc := "(LScoreHandles$Type;ILScoreHandles$Type;)LScoreHandles$Type;" } : Jvm.MethodName) prog_5_method_13_code (4 : Nat) (Option.some (Jvm.ClassFile.FieldType.object "ScoreHandles$Type"))) ∈ lw_all := lw_in 407 (by decide +kernel) rfl
theorem qn408 : (Jvm.Cond.methodLinkNest "ScoreHandles$Maker" (157 : Nat) ({ cls := "ScoreHandles$Type", name := "changed", desc := "(II)LScoreHandles$Type;" } : Jvm.MethodName) "ScoreHandles") ∈ lw_nest := lw_inN 408 (by decide +kernel) rfl
theorem qw409 : (Jvm.Cond.methodLink "ScoreHandles$Maker" (140 : Nat) ({ cls := "ScoreHandles$Maker", name := "typeOfFold", desc := "(LScoreHandles$Type;LScoreHandles$Type;)LScoreHandles$Type;" } : Jvm.MethodName)) ∈ lw_all := lw_in 409 (by decide +kernel) rfl
theorem qw410 : (Jvm.Cond.static ({ cls := "ScoreHandles$Maker", name := "typeOfFold", desc := "(LScoreHandles$Type;LScoreHandles$Type;)LScoreHandles$Type;" } : Jvm.MethodName)) ∈ lw_all := lw_in 410 (by decide +kernel) rfl
theorem qw411 : (Jvm.Cond.code ({ cls := "ScoreHandles$Maker", name := "typeOfFold", desc := "(LScoreHandles$Type;LScoreHandles$Type;)LScoreHandles$Type;" } : Jvm.MethodName) prog_5_method_14_code (3 : Nat) (Option.some (Jvm.ClassFile.FieldType.object "ScoreHandles$Type"))) ∈ lw_all := lw_in 411 (by decide +kernel) rfl
theorem qn412 : (Jvm.Cond.methodLinkNest "ScoreHandles$Maker" (160 : Nat) ({ cls := "ScoreHandles$Type", name := "isFirstOf", desc := "(LScoreHandles$Type;II)Z" } : Jvm.MethodName) "ScoreHandles") ∈ lw_nest := lw_inN 412 (by decide +kernel) rfl
theorem qw414 : (Jvm.Cond.instanceMethod ({ cls := "ScoreHandles$Type", name := "isFirstOf", desc := "(LScoreHandles$Type;II)Z" } : Jvm.MethodName)) ∈ lw_all := lw_in 414 (by decide +kernel) rfl
theorem qw415 : (Jvm.Cond.code ({ cls := "ScoreHandles$Type", name := "isFirstOf", desc := "(LScoreHandles$Type;II)Z" } : Jvm.MethodName) prog_11_method_6_code (5 : Nat) (Option.some Jvm.ClassFile.FieldType.boolean)) ∈ lw_all := lw_in 415 (by decide +kernel) rfl
theorem qw416 : (Jvm.Cond.methodLink "ScoreHandles$Maker" (144 : Nat) ({ cls := "ScoreHandles$Maker", name := "typeOfThen", desc := "(LScoreHandles$Type;LScoreHandles$Type;)LScoreHandles$Type;" } : Jvm.MethodName)) ∈ lw_all := lw_in 416 (by decide +kernel) rfl
theorem qw417 : (Jvm.Cond.static ({ cls := "ScoreHandles$Maker", name := "typeOfThen", desc := "(LScoreHandles$Type;LScoreHandles$Type;)LScoreHandles$Type;" } : Jvm.MethodName)) ∈ lw_all := lw_in 417 (by decide +kernel) rfl
theorem qw418 : (Jvm.Cond.code ({ cls := "ScoreHandles$Maker", name := "typeOfThen", desc := "(LScoreHandles$Type;LScoreHandles$Type;)LScoreHandles$Type;" } : Jvm.MethodName) prog_5_method_15_code (3 : Nat) (Option.some (Jvm.ClassFile.FieldType.object "ScoreHandles$Type"))) ∈ lw_all := lw_in 418 (by decide +kernel) rfl
theorem qn419 : (Jvm.Cond.methodLinkNest "ScoreHandles$Maker" (164 : Nat) ({ cls := "ScoreHandles$Type", name := "giving", desc := "(I)LScoreHandles$Type;" } : Jvm.MethodName) "ScoreHandles") ∈ lw_nest := lw_inN 419 (by decide +kernel) rfl
theorem qw421 : (Jvm.Cond.instanceMethod ({ cls := "ScoreHandles$Type", name := "giving", desc := "(I)LScoreHandles$Type;" } : Jvm.MethodName)) ∈ lw_all := lw_in 421 (by decide +kernel) rfl
theorem qw422 : (Jvm.Cond.code ({ cls := "ScoreHandles$Type", name := "giving", desc := "(I)LScoreHandles$Type;" } : Jvm.MethodName) prog_11_method_7_code (2 : Nat) (Option.some (Jvm.ClassFile.FieldType.object "ScoreHandles$Type"))) ∈ lw_all := lw_in 422 (by decide +kernel) rfl
theorem qw423 : (Jvm.Cond.methodLink "ScoreHandles$Maker" (147 : Nat) ({ cls := "ScoreHandles$Maker", name := "typeOfGuard", desc := "(LScoreHandles$Type;LScoreHandles$Type;LScoreHandles$Type;)LScoreHandles$Type;" } : Jvm.MethodName)) ∈ lw_all := lw_in 423 (by decide +kernel) rfl
theorem qw424 : (Jvm.Cond.static ({ cls := "ScoreHandles$Maker", name := "typeOfGuard", desc := "(LScoreHandles$Type;LScoreHandles$Type;LScoreHandles$Type;)LScoreHandles$Type;" } : Jvm.MethodName)) ∈ lw_all := lw_in 424 (by decide +kernel) rfl
theorem qw425 : (Jvm.Cond.code ({ cls := "ScoreHandles$Maker", name := "typeOfGuard", desc := "(LScoreHandles$Type;LScoreHandles$Type;LScoreHandles$Type;)LScoreHandles$Type;" } : Jvm.MethodName) prog_5_method_16_code (4 : Nat) (Option.some (Jvm.ClassFile.FieldType.object "ScoreHandles$Type"))) ∈ lw_all := lw_in 425 (by decide +kernel) rfl
theorem qn426 : (Jvm.Cond.methodLinkNest "ScoreHandles$Maker" (167 : Nat) ({ cls := "ScoreHandles$Type", name := "isSame", desc := "(LScoreHandles$Type;)Z" } : Jvm.MethodName) "ScoreHandles") ∈ lw_nest := lw_inN 426 (by decide +kernel) rfl
theorem qw428 : (Jvm.Cond.instanceMethod ({ cls := "ScoreHandles$Type", name := "isSame", desc := "(LScoreHandles$Type;)Z" } : Jvm.MethodName)) ∈ lw_all := lw_in 428 (by decide +kernel) rfl
theorem qw429 : (Jvm.Cond.code ({ cls := "ScoreHandles$Type", name := "isSame", desc := "(LScoreHandles$Type;)Z" } : Jvm.MethodName) prog_11_method_4_code (2 : Nat) (Option.some Jvm.ClassFile.FieldType.boolean)) ∈ lw_all := lw_in 429 (by decide +kernel) rfl
theorem qw430 : (Jvm.Cond.methodLink "ScoreHandles$Type" (27 : Nat) ({ cls := "ScoreHandles$Type", name := "isFirstOf", desc := "(LScoreHandles$Type;II)Z" } : Jvm.MethodName)) ∈ lw_all := lw_in 430 (by decide +kernel) rfl
theorem qw431 : (Jvm.Cond.methodLink "ScoreHandles$Maker" (151 : Nat) ({ cls := "ScoreHandles$Maker", name := "typeOfCatch", desc := "(LScoreHandles$Type;LScoreHandles$Type;)LScoreHandles$Type;" } : Jvm.MethodName)) ∈ lw_all := lw_in 431 (by decide +kernel) rfl
theorem qw432 : (Jvm.Cond.static ({ cls := "ScoreHandles$Maker", name := "typeOfCatch", desc := "(LScoreHandles$Type;LScoreHandles$Type;)LScoreHandles$Type;" } : Jvm.MethodName)) ∈ lw_all := lw_in 432 (by decide +kernel) rfl
theorem qw433 : (Jvm.Cond.code ({ cls := "ScoreHandles$Maker", name := "typeOfCatch", desc := "(LScoreHandles$Type;LScoreHandles$Type;)LScoreHandles$Type;" } : Jvm.MethodName) prog_5_method_17_code (3 : Nat) (Option.some (Jvm.ClassFile.FieldType.object "ScoreHandles$Type"))) ∈ lw_all := lw_in 433 (by decide +kernel) rfl
theorem qw434 : (Jvm.Cond.methodLink "ScoreHandles$Maker" (154 : Nat) ({ cls := "ScoreHandles$Maker", name := "typeOfLast", desc := "(LScoreHandles$Type;LScoreHandles$Type;)LScoreHandles$Type;" } : Jvm.MethodName)) ∈ lw_all := lw_in 434 (by decide +kernel) rfl
theorem qw435 : (Jvm.Cond.static ({ cls := "ScoreHandles$Maker", name := "typeOfLast", desc := "(LScoreHandles$Type;LScoreHandles$Type;)LScoreHandles$Type;" } : Jvm.MethodName)) ∈ lw_all := lw_in 435 (by decide +kernel) rfl
theorem qw436 : (Jvm.Cond.code ({ cls := "ScoreHandles$Maker", name := "typeOfLast", desc := "(LScoreHandles$Type;LScoreHandles$Type;)LScoreHandles$Type;" } : Jvm.MethodName) prog_5_method_18_code (3 : Nat) (Option.some (Jvm.ClassFile.FieldType.object "ScoreHandles$Type"))) ∈ lw_all := lw_in 436 (by decide +kernel) rfl
theorem qn437 : (Jvm.Cond.methodLinkNest "ScoreHandles" (108 : Nat) ({ cls := "ScoreHandles$Maker", name := "bitsOf", desc := "(LScoreHandles$Handle;)J" } : Jvm.MethodName) "ScoreHandles") ∈ lw_nest := lw_inN 437 (by decide +kernel) rfl
theorem qw439 : (Jvm.Cond.instanceMethod ({ cls := "ScoreHandles$Maker", name := "bitsOf", desc := "(LScoreHandles$Handle;)J" } : Jvm.MethodName)) ∈ lw_all := lw_in 439 (by decide +kernel) rfl
theorem qw440 : (Jvm.Cond.code ({ cls := "ScoreHandles$Maker", name := "bitsOf", desc := "(LScoreHandles$Handle;)J" } : Jvm.MethodName) prog_5_method_9_code (2 : Nat) (Option.some Jvm.ClassFile.FieldType.long)) ∈ lw_all := lw_in 440 (by decide +kernel) rfl
theorem qn441 : (Jvm.Cond.methodLinkNest "ScoreHandles$Maker" (102 : Nat) ({ cls := "ScoreHandles$Kind", name := "fromBits", desc := "(IJ)J" } : Jvm.MethodName) "ScoreHandles") ∈ lw_nest := lw_inN 441 (by decide +kernel) rfl
theorem qn442 : (Jvm.Cond.methodLinkNest "ScoreHandles" (112 : Nat) ({ cls := "ScoreHandles$Handle", name := "settle", desc := "(LScoreHandles$Type;J)V" } : Jvm.MethodName) "ScoreHandles") ∈ lw_nest := lw_inN 442 (by decide +kernel) rfl
theorem qw444 : (Jvm.Cond.instanceMethod ({ cls := "ScoreHandles$Handle", name := "settle", desc := "(LScoreHandles$Type;J)V" } : Jvm.MethodName)) ∈ lw_all := lw_in 444 (by decide +kernel) rfl
theorem qw445 : (Jvm.Cond.code ({ cls := "ScoreHandles$Handle", name := "settle", desc := "(LScoreHandles$Type;J)V" } : Jvm.MethodName) prog_2_method_2_code (4 : Nat) (Option.none : Option Jvm.ClassFile.FieldType)) ∈ lw_all := lw_in 445 (by decide +kernel) rfl
theorem qn446 : (Jvm.Cond.methodLinkNest "ScoreHandles" (116 : Nat) ({ cls := "ScoreHandles$Handles", name := "numberOf", desc := "(LScoreHandles$Handle;)I" } : Jvm.MethodName) "ScoreHandles") ∈ lw_nest := lw_inN 446 (by decide +kernel) rfl
theorem qw448 : (Jvm.Cond.instanceMethod ({ cls := "ScoreHandles$Handles", name := "numberOf", desc := "(LScoreHandles$Handle;)I" } : Jvm.MethodName)) ∈ lw_all := lw_in 448 (by decide +kernel) rfl
theorem qw449 : (Jvm.Cond.code ({ cls := "ScoreHandles$Handles", name := "numberOf", desc := "(LScoreHandles$Handle;)I" } : Jvm.MethodName) prog_3_method_4_code (4 : Nat) (Option.some Jvm.ClassFile.FieldType.int)) ∈ lw_all := lw_in 449 (by decide +kernel) rfl
theorem qn450 : (Jvm.Cond.methodLinkNest "ScoreHandles$Handles" (29 : Nat) ({ cls := "ScoreHandles$Handle", name := "isMadeAs", desc := "(LScoreHandles$Handle;)Z" } : Jvm.MethodName) "ScoreHandles") ∈ lw_nest := lw_inN 450 (by decide +kernel) rfl
theorem qw452 : (Jvm.Cond.instanceMethod ({ cls := "ScoreHandles$Handle", name := "isMadeAs", desc := "(LScoreHandles$Handle;)Z" } : Jvm.MethodName)) ∈ lw_all := lw_in 452 (by decide +kernel) rfl
theorem qw453 : (Jvm.Cond.code ({ cls := "ScoreHandles$Handle", name := "isMadeAs", desc := "(LScoreHandles$Handle;)Z" } : Jvm.MethodName) prog_2_method_3_code (2 : Nat) (Option.some Jvm.ClassFile.FieldType.boolean)) ∈ lw_all := lw_in 453 (by decide +kernel) rfl
theorem qn454 : (Jvm.Cond.methodLinkNest "ScoreHandles$Handle" (43 : Nat) ({ cls := "ScoreHandles$Type", name := "isSame", desc := "(LScoreHandles$Type;)Z" } : Jvm.MethodName) "ScoreHandles") ∈ lw_nest := lw_inN 454 (by decide +kernel) rfl
theorem qw455 : (Jvm.Cond.methodLink "ScoreHandlesLaw" (45 : Nat) ({ cls := "ScoreHandles", name := "told", desc := "(II)I" } : Jvm.MethodName)) ∈ lw_all := lw_in 455 (by decide +kernel) rfl
theorem qw456 : (Jvm.Cond.instanceMethod ({ cls := "ScoreHandles", name := "told", desc := "(II)I" } : Jvm.MethodName)) ∈ lw_all := lw_in 456 (by decide +kernel) rfl
theorem qw457 : (Jvm.Cond.selects "ScoreHandles" ({ cls := "ScoreHandles", name := "told", desc := "(II)I" } : Jvm.MethodName) ({ cls := "ScoreHandles", name := "told", desc := "(II)I" } : Jvm.MethodName)) ∈ lw_all := lw_in 457 (by decide +kernel) rfl
theorem qw458 : (Jvm.Cond.code ({ cls := "ScoreHandles", name := "told", desc := "(II)I" } : Jvm.MethodName) prog_1_method_8_code (5 : Nat) (Option.some Jvm.ClassFile.FieldType.int)) ∈ lw_all := lw_in 458 (by decide +kernel) rfl
theorem qn459 : (Jvm.Cond.methodLinkNest "ScoreHandles" (120 : Nat) ({ cls := "ScoreHandles$Handles", name := "at", desc := "(I)LScoreHandles$Handle;" } : Jvm.MethodName) "ScoreHandles") ∈ lw_nest := lw_inN 459 (by decide +kernel) rfl
theorem qn460 : (Jvm.Cond.methodLinkNest "ScoreHandles" (134 : Nat) ({ cls := "ScoreHandles$Type", name := "kind", desc := "(I)I" } : Jvm.MethodName) "ScoreHandles") ∈ lw_nest := lw_inN 460 (by decide +kernel) rfl
theorem qw461 : (Jvm.Cond.methodLink "ScoreHandlesLaw" (49 : Nat) ({ cls := "ScoreHandles", name := "fits", desc := "(I)I" } : Jvm.MethodName)) ∈ lw_all := lw_in 461 (by decide +kernel) rfl
theorem qw462 : (Jvm.Cond.instanceMethod ({ cls := "ScoreHandles", name := "fits", desc := "(I)I" } : Jvm.MethodName)) ∈ lw_all := lw_in 462 (by decide +kernel) rfl
theorem qw463 : (Jvm.Cond.selects "ScoreHandles" ({ cls := "ScoreHandles", name := "fits", desc := "(I)I" } : Jvm.MethodName) ({ cls := "ScoreHandles", name := "fits", desc := "(I)I" } : Jvm.MethodName)) ∈ lw_all := lw_in 463 (by decide +kernel) rfl
theorem qw464 : (Jvm.Cond.code ({ cls := "ScoreHandles", name := "fits", desc := "(I)I" } : Jvm.MethodName) prog_1_method_9_code (3 : Nat) (Option.some Jvm.ClassFile.FieldType.int)) ∈ lw_all := lw_in 464 (by decide +kernel) rfl
theorem qn465 : (Jvm.Cond.methodLinkNest "ScoreHandles" (138 : Nat) ({ cls := "ScoreHandles$Type", name := "isSame", desc := "(LScoreHandles$Type;)Z" } : Jvm.MethodName) "ScoreHandles") ∈ lw_nest := lw_inN 465 (by decide +kernel) rfl
theorem qn466 : (Jvm.Cond.methodLinkNest "ScoreHandles" (142 : Nat) ({ cls := "ScoreHandles$Type", name := "goesTo", desc := "(LScoreHandles$Type;)Z" } : Jvm.MethodName) "ScoreHandles") ∈ lw_nest := lw_inN 466 (by decide +kernel) rfl
theorem qw467 : (Jvm.Cond.methodLink "ScoreHandlesLaw" (53 : Nat) ({ cls := "ScoreHandles", name := "give", desc := "(IJ)I" } : Jvm.MethodName)) ∈ lw_all := lw_in 467 (by decide +kernel) rfl
theorem qw468 : (Jvm.Cond.instanceMethod ({ cls := "ScoreHandles", name := "give", desc := "(IJ)I" } : Jvm.MethodName)) ∈ lw_all := lw_in 468 (by decide +kernel) rfl
theorem qw469 : (Jvm.Cond.selects "ScoreHandles" ({ cls := "ScoreHandles", name := "give", desc := "(IJ)I" } : Jvm.MethodName) ({ cls := "ScoreHandles", name := "give", desc := "(IJ)I" } : Jvm.MethodName)) ∈ lw_all := lw_in 469 (by decide +kernel) rfl
theorem qw470 : (Jvm.Cond.code ({ cls := "ScoreHandles", name := "give", desc := "(IJ)I" } : Jvm.MethodName) prog_1_method_10_code (4 : Nat) (Option.some Jvm.ClassFile.FieldType.int)) ∈ lw_all := lw_in 470 (by decide +kernel) rfl
theorem qw471 : (Jvm.Cond.methodLink "ScoreHandlesLaw" (58 : Nat) ({ cls := "ScoreHandles", name := "run", desc := "(IZ)I" } : Jvm.MethodName)) ∈ lw_all := lw_in 471 (by decide +kernel) rfl
theorem qw472 : (Jvm.Cond.instanceMethod ({ cls := "ScoreHandles", name := "run", desc := "(IZ)I" } : Jvm.MethodName)) ∈ lw_all := lw_in 472 (by decide +kernel) rfl
theorem qw473 : (Jvm.Cond.selects "ScoreHandles" ({ cls := "ScoreHandles", name := "run", desc := "(IZ)I" } : Jvm.MethodName) ({ cls := "ScoreHandles", name := "run", desc := "(IZ)I" } : Jvm.MethodName)) ∈ lw_all := lw_in 473 (by decide +kernel) rfl
theorem qw474 : (Jvm.Cond.code ({ cls := "ScoreHandles", name := "run", desc := "(IZ)I" } : Jvm.MethodName) prog_1_method_11_code (6 : Nat) (Option.some Jvm.ClassFile.FieldType.int)) ∈ lw_all := lw_in 474 (by decide +kernel) rfl
theorem qw475 : (Jvm.Cond.methodLink "ScoreHandles" (145 : Nat) ({ cls := "ScoreHandles", name := "givenRowsAreThere", desc := "()Z" } : Jvm.MethodName)) ∈ lw_all := lw_in 475 (by decide +kernel) rfl
theorem qw477 : (Jvm.Cond.instanceMethod ({ cls := "ScoreHandles", name := "givenRowsAreThere", desc := "()Z" } : Jvm.MethodName)) ∈ lw_all := lw_in 477 (by decide +kernel) rfl
theorem qw478 : (Jvm.Cond.code ({ cls := "ScoreHandles", name := "givenRowsAreThere", desc := "()Z" } : Jvm.MethodName) prog_1_method_15_code (2 : Nat) (Option.some Jvm.ClassFile.FieldType.boolean)) ∈ lw_all := lw_in 478 (by decide +kernel) rfl
theorem qn479 : (Jvm.Cond.methodLinkNest "ScoreHandles" (184 : Nat) ({ cls := "ScoreHandles$Rows", name := "mayBe", desc := "(IJ)Z" } : Jvm.MethodName) "ScoreHandles") ∈ lw_nest := lw_inN 479 (by decide +kernel) rfl
theorem qn480 : (Jvm.Cond.methodLinkNest "ScoreHandles" (152 : Nat) ({ cls := "ScoreHandles$Runner", name := "forget", desc := "()V" } : Jvm.MethodName) "ScoreHandles") ∈ lw_nest := lw_inN 480 (by decide +kernel) rfl
theorem qw482 : (Jvm.Cond.instanceMethod ({ cls := "ScoreHandles$Runner", name := "forget", desc := "()V" } : Jvm.MethodName)) ∈ lw_all := lw_in 482 (by decide +kernel) rfl
theorem qw483 : (Jvm.Cond.code ({ cls := "ScoreHandles$Runner", name := "forget", desc := "()V" } : Jvm.MethodName) prog_9_method_2_code (1 : Nat) (Option.none : Option Jvm.ClassFile.FieldType)) ∈ lw_all := lw_in 483 (by decide +kernel) rfl
theorem qw484 : (Jvm.Cond.methodLink "ScoreHandles" (155 : Nat) ({ cls := "ScoreHandles", name := "handOverNumbers", desc := "(LScoreHandles$Type;)V" } : Jvm.MethodName)) ∈ lw_all := lw_in 484 (by decide +kernel) rfl
theorem qw486 : (Jvm.Cond.instanceMethod ({ cls := "ScoreHandles", name := "handOverNumbers", desc := "(LScoreHandles$Type;)V" } : Jvm.MethodName)) ∈ lw_all := lw_in 486 (by decide +kernel) rfl
theorem qw487 : (Jvm.Cond.code ({ cls := "ScoreHandles", name := "handOverNumbers", desc := "(LScoreHandles$Type;)V" } : Jvm.MethodName) prog_1_method_16_code (6 : Nat) (Option.none : Option Jvm.ClassFile.FieldType)) ∈ lw_all := lw_in 487 (by decide +kernel) rfl
theorem qn488 : (Jvm.Cond.methodLinkNest "ScoreHandles" (166 : Nat) ({ cls := "ScoreHandles$Kind", name := "widened", desc := "(IIJ)J" } : Jvm.MethodName) "ScoreHandles") ∈ lw_nest := lw_inN 488 (by decide +kernel) rfl
theorem qw489 : (Jvm.Cond.static ({ cls := "ScoreHandles$Kind", name := "widened", desc := "(IIJ)J" } : Jvm.MethodName)) ∈ lw_all := lw_in 489 (by decide +kernel) rfl
theorem qw490 : (Jvm.Cond.code ({ cls := "ScoreHandles$Kind", name := "widened", desc := "(IIJ)J" } : Jvm.MethodName) prog_4_method_8_code (4 : Nat) (Option.some Jvm.ClassFile.FieldType.long)) ∈ lw_all := lw_in 490 (by decide +kernel) rfl
theorem qn491 : (Jvm.Cond.methodLinkNest "ScoreHandles$Kind" (28 : Nat) ({ cls := "ScoreHandles$Real", name := "fromWhole", desc := "(J)J" } : Jvm.MethodName) "ScoreHandles") ∈ lw_nest := lw_inN 491 (by decide +kernel) rfl
theorem qw493 : (Jvm.Cond.instanceMethod ({ cls := "ScoreHandles$Real", name := "fromWhole", desc := "(J)J" } : Jvm.MethodName)) ∈ lw_all := lw_in 493 (by decide +kernel) rfl
theorem qw494 : (Jvm.Cond.code ({ cls := "ScoreHandles$Real", name := "fromWhole", desc := "(J)J" } : Jvm.MethodName) prog_6_method_19_code (5 : Nat) (Option.some Jvm.ClassFile.FieldType.long)) ∈ lw_all := lw_in 494 (by decide +kernel) rfl
theorem qw495 : (Jvm.Cond.methodLink "ScoreHandles$Real" (85 : Nat) ({ cls := "java/lang/Math", name := "abs", desc := "(J)J" } : Jvm.MethodName)) ∈ lw_all := lw_in 495 (by decide +kernel) rfl
theorem qw496 : (Jvm.Cond.static ({ cls := "java/lang/Math", name := "abs", desc := "(J)J" } : Jvm.MethodName)) ∈ lw_all := lw_in 496 (by decide +kernel) rfl
theorem qw497 : (Jvm.Cond.code ({ cls := "java/lang/Math", name := "abs", desc := "(J)J" } : Jvm.MethodName) prog_17_method_61_code (2 : Nat) (Option.some Jvm.ClassFile.FieldType.long)) ∈ lw_all := lw_in 497 (by decide +kernel) rfl
theorem qw498 : (Jvm.Cond.constantLong "ScoreHandles$Real" (103 : Nat) (4611686018427387904 : Int64)) ∈ lw_all := lw_in 498 (by decide +kernel) rfl
theorem qw499 : (Jvm.Cond.methodLink "ScoreHandles$Real" (88 : Nat) ({ cls := "ScoreHandles$Real", name := "rounded", desc := "(ZJI)J" } : Jvm.MethodName)) ∈ lw_all := lw_in 499 (by decide +kernel) rfl
theorem qw501 : (Jvm.Cond.instanceMethod ({ cls := "ScoreHandles$Real", name := "rounded", desc := "(ZJI)J" } : Jvm.MethodName)) ∈ lw_all := lw_in 501 (by decide +kernel) rfl
theorem qw502 : (Jvm.Cond.code ({ cls := "ScoreHandles$Real", name := "rounded", desc := "(ZJI)J" } : Jvm.MethodName) prog_6_method_21_code (18 : Nat) (Option.some Jvm.ClassFile.FieldType.long)) ∈ lw_all := lw_in 502 (by decide +kernel) rfl
theorem qw503 : (Jvm.Cond.methodLink "ScoreHandles$Real" (99 : Nat) ({ cls := "ScoreHandles$Real", name := "roomAbove", desc := "(JI)I" } : Jvm.MethodName)) ∈ lw_all := lw_in 503 (by decide +kernel) rfl
theorem qw504 : (Jvm.Cond.static ({ cls := "ScoreHandles$Real", name := "roomAbove", desc := "(JI)I" } : Jvm.MethodName)) ∈ lw_all := lw_in 504 (by decide +kernel) rfl
theorem qw505 : (Jvm.Cond.code ({ cls := "ScoreHandles$Real", name := "roomAbove", desc := "(JI)I" } : Jvm.MethodName) prog_6_method_22_code (5 : Nat) (Option.some Jvm.ClassFile.FieldType.int)) ∈ lw_all := lw_in 505 (by decide +kernel) rfl
theorem qw506 : (Jvm.Cond.methodLink "ScoreHandles$Real" (81 : Nat) ({ cls := "ScoreHandles$Real", name := "signed", desc := "(ZJ)J" } : Jvm.MethodName)) ∈ lw_all := lw_in 506 (by decide +kernel) rfl
theorem qw508 : (Jvm.Cond.instanceMethod ({ cls := "ScoreHandles$Real", name := "signed", desc := "(ZJ)J" } : Jvm.MethodName)) ∈ lw_all := lw_in 508 (by decide +kernel) rfl
theorem qw509 : (Jvm.Cond.code ({ cls := "ScoreHandles$Real", name := "signed", desc := "(ZJ)J" } : Jvm.MethodName) prog_6_method_8_code (4 : Nat) (Option.some Jvm.ClassFile.FieldType.long)) ∈ lw_all := lw_in 509 (by decide +kernel) rfl
theorem qn510 : (Jvm.Cond.methodLinkNest "ScoreHandles$Kind" (31 : Nat) ({ cls := "ScoreHandles$Real", name := "fromSingle", desc := "(J)J" } : Jvm.MethodName) "ScoreHandles") ∈ lw_nest := lw_inN 510 (by decide +kernel) rfl
theorem qw512 : (Jvm.Cond.instanceMethod ({ cls := "ScoreHandles$Real", name := "fromSingle", desc := "(J)J" } : Jvm.MethodName)) ∈ lw_all := lw_in 512 (by decide +kernel) rfl
theorem qw513 : (Jvm.Cond.code ({ cls := "ScoreHandles$Real", name := "fromSingle", desc := "(J)J" } : Jvm.MethodName) prog_6_method_20_code (6 : Nat) (Option.some Jvm.ClassFile.FieldType.long)) ∈ lw_all := lw_in 513 (by decide +kernel) rfl
theorem qw514 : (Jvm.Cond.fieldLink "ScoreHandles$Real" (3 : Nat) "ScoreHandles$Real" "SINGLE" "LScoreHandles$Real;") ∈ lw_all := lw_in 514 (by decide +kernel) rfl
theorem qw515 : (Jvm.Cond.methodLink "ScoreHandles$Real" (92 : Nat) ({ cls := "ScoreHandles$Real", name := "significand", desc := "(J)J" } : Jvm.MethodName)) ∈ lw_all := lw_in 515 (by decide +kernel) rfl
theorem qw517 : (Jvm.Cond.instanceMethod ({ cls := "ScoreHandles$Real", name := "significand", desc := "(J)J" } : Jvm.MethodName)) ∈ lw_all := lw_in 517 (by decide +kernel) rfl
theorem qw518 : (Jvm.Cond.code ({ cls := "ScoreHandles$Real", name := "significand", desc := "(J)J" } : Jvm.MethodName) prog_6_method_10_code (7 : Nat) (Option.some Jvm.ClassFile.FieldType.long)) ∈ lw_all := lw_in 518 (by decide +kernel) rfl
theorem qw519 : (Jvm.Cond.methodLink "ScoreHandles$Real" (73 : Nat) ({ cls := "ScoreHandles$Real", name := "power", desc := "(J)I" } : Jvm.MethodName)) ∈ lw_all := lw_in 519 (by decide +kernel) rfl
theorem qw521 : (Jvm.Cond.instanceMethod ({ cls := "ScoreHandles$Real", name := "power", desc := "(J)I" } : Jvm.MethodName)) ∈ lw_all := lw_in 521 (by decide +kernel) rfl
theorem qw522 : (Jvm.Cond.code ({ cls := "ScoreHandles$Real", name := "power", desc := "(J)I" } : Jvm.MethodName) prog_6_method_11_code (3 : Nat) (Option.some Jvm.ClassFile.FieldType.int)) ∈ lw_all := lw_in 522 (by decide +kernel) rfl
theorem qw523 : (Jvm.Cond.methodLink "ScoreHandles$Real" (60 : Nat) ({ cls := "java/lang/Math", name := "max", desc := "(II)I" } : Jvm.MethodName)) ∈ lw_all := lw_in 523 (by decide +kernel) rfl
theorem qn524 : (Jvm.Cond.methodLinkNest "ScoreHandles" (188 : Nat) ({ cls := "ScoreHandles$Runner", name := "hand", desc := "(IIJ)V" } : Jvm.MethodName) "ScoreHandles") ∈ lw_nest := lw_inN 524 (by decide +kernel) rfl
theorem qw526 : (Jvm.Cond.instanceMethod ({ cls := "ScoreHandles$Runner", name := "hand", desc := "(IIJ)V" } : Jvm.MethodName)) ∈ lw_all := lw_in 526 (by decide +kernel) rfl
theorem qw527 : (Jvm.Cond.code ({ cls := "ScoreHandles$Runner", name := "hand", desc := "(IIJ)V" } : Jvm.MethodName) prog_9_method_3_code (6 : Nat) (Option.none : Option Jvm.ClassFile.FieldType)) ∈ lw_all := lw_in 527 (by decide +kernel) rfl
theorem qw528 : (Jvm.Cond.methodLink "ScoreHandles$Runner" (36 : Nat) ({ cls := "ScoreHandles$Runner", name := "slot", desc := "(II)I" } : Jvm.MethodName)) ∈ lw_all := lw_in 528 (by decide +kernel) rfl
theorem qw529 : (Jvm.Cond.static ({ cls := "ScoreHandles$Runner", name := "slot", desc := "(II)I" } : Jvm.MethodName)) ∈ lw_all := lw_in 529 (by decide +kernel) rfl
theorem qw530 : (Jvm.Cond.code ({ cls := "ScoreHandles$Runner", name := "slot", desc := "(II)I" } : Jvm.MethodName) prog_9_method_5_code (3 : Nat) (Option.some Jvm.ClassFile.FieldType.int)) ∈ lw_all := lw_in 530 (by decide +kernel) rfl
theorem qn531 : (Jvm.Cond.methodLinkNest "ScoreHandles" (159 : Nat) ({ cls := "ScoreHandles$Runner", name := "perform", desc := "(II)J" } : Jvm.MethodName) "ScoreHandles") ∈ lw_nest := lw_inN 531 (by decide +kernel) rfl
theorem qw533 : (Jvm.Cond.instanceMethod ({ cls := "ScoreHandles$Runner", name := "perform", desc := "(II)J" } : Jvm.MethodName)) ∈ lw_all := lw_in 533 (by decide +kernel) rfl
theorem qw534 : (Jvm.Cond.code ({ cls := "ScoreHandles$Runner", name := "perform", desc := "(II)J" } : Jvm.MethodName) prog_9_method_9_code (4 : Nat) (Option.some Jvm.ClassFile.FieldType.long)) ∈ lw_all := lw_in 534 (by decide +kernel) rfl
theorem qn535 : (Jvm.Cond.methodLinkNest "ScoreHandles$Runner" (58 : Nat) ({ cls := "ScoreHandles$Handles", name := "at", desc := "(I)LScoreHandles$Handle;" } : Jvm.MethodName) "ScoreHandles") ∈ lw_nest := lw_inN 535 (by decide +kernel) rfl
theorem qw536 : (Jvm.Cond.methodLink "ScoreHandles$Runner" (64 : Nat) ({ cls := "ScoreHandles$Runner", name := "spent", desc := "(I)J" } : Jvm.MethodName)) ∈ lw_all := lw_in 536 (by decide +kernel) rfl
theorem qw538 : (Jvm.Cond.instanceMethod ({ cls := "ScoreHandles$Runner", name := "spent", desc := "(I)J" } : Jvm.MethodName)) ∈ lw_all := lw_in 538 (by decide +kernel) rfl
theorem qw539 : (Jvm.Cond.code ({ cls := "ScoreHandles$Runner", name := "spent", desc := "(I)J" } : Jvm.MethodName) prog_9_method_8_code (2 : Nat) (Option.some Jvm.ClassFile.FieldType.long)) ∈ lw_all := lw_in 539 (by decide +kernel) rfl
theorem qw540 : (Jvm.Cond.methodLink "ScoreHandles$Runner" (45 : Nat) ({ cls := "ScoreHandles$Runner", name := "taken", desc := "(II)J" } : Jvm.MethodName)) ∈ lw_all := lw_in 540 (by decide +kernel) rfl
theorem qw542 : (Jvm.Cond.instanceMethod ({ cls := "ScoreHandles$Runner", name := "taken", desc := "(II)J" } : Jvm.MethodName)) ∈ lw_all := lw_in 542 (by decide +kernel) rfl
theorem qw543 : (Jvm.Cond.code ({ cls := "ScoreHandles$Runner", name := "taken", desc := "(II)J" } : Jvm.MethodName) prog_9_method_4_code (4 : Nat) (Option.some Jvm.ClassFile.FieldType.long)) ∈ lw_all := lw_in 543 (by decide +kernel) rfl
theorem qw544 : (Jvm.Cond.methodLink "ScoreHandles$Runner" (74 : Nat) ({ cls := "ScoreHandles$Runner", name := "sum", desc := "(IJJ)J" } : Jvm.MethodName)) ∈ lw_all := lw_in 544 (by decide +kernel) rfl
theorem qw545 : (Jvm.Cond.static ({ cls := "ScoreHandles$Runner", name := "sum", desc := "(IJJ)J" } : Jvm.MethodName)) ∈ lw_all := lw_in 545 (by decide +kernel) rfl
theorem qw546 : (Jvm.Cond.code ({ cls := "ScoreHandles$Runner", name := "sum", desc := "(IJJ)J" } : Jvm.MethodName) prog_9_method_15_code (5 : Nat) (Option.some Jvm.ClassFile.FieldType.long)) ∈ lw_all := lw_in 546 (by decide +kernel) rfl
theorem qw547 : (Jvm.Cond.fieldLink "ScoreHandles$Runner" (175 : Nat) "ScoreHandles$Real" "SINGLE" "LScoreHandles$Real;") ∈ lw_all := lw_in 547 (by decide +kernel) rfl
theorem qn548 : (Jvm.Cond.methodLinkNest "ScoreHandles$Runner" (181 : Nat) ({ cls := "ScoreHandles$Real", name := "sumOf", desc := "(JJ)J" } : Jvm.MethodName) "ScoreHandles") ∈ lw_nest := lw_inN 548 (by decide +kernel) rfl
theorem qw550 : (Jvm.Cond.instanceMethod ({ cls := "ScoreHandles$Real", name := "sumOf", desc := "(JJ)J" } : Jvm.MethodName)) ∈ lw_all := lw_in 550 (by decide +kernel) rfl
theorem qw551 : (Jvm.Cond.code ({ cls := "ScoreHandles$Real", name := "sumOf", desc := "(JJ)J" } : Jvm.MethodName) prog_6_method_14_code (8 : Nat) (Option.some Jvm.ClassFile.FieldType.long)) ∈ lw_all := lw_in 551 (by decide +kernel) rfl
theorem qw552 : (Jvm.Cond.methodLink "ScoreHandles$Real" (69 : Nat) ({ cls := "ScoreHandles$Real", name := "sumBeyond", desc := "(JJ)J" } : Jvm.MethodName)) ∈ lw_all := lw_in 552 (by decide +kernel) rfl
theorem qw554 : (Jvm.Cond.instanceMethod ({ cls := "ScoreHandles$Real", name := "sumBeyond", desc := "(JJ)J" } : Jvm.MethodName)) ∈ lw_all := lw_in 554 (by decide +kernel) rfl
theorem qw555 : (Jvm.Cond.code ({ cls := "ScoreHandles$Real", name := "sumBeyond", desc := "(JJ)J" } : Jvm.MethodName) prog_6_method_15_code (6 : Nat) (Option.some Jvm.ClassFile.FieldType.long)) ∈ lw_all := lw_in 555 (by decide +kernel) rfl
theorem qw556 : (Jvm.Cond.methodLink "ScoreHandles$Real" (77 : Nat) ({ cls := "ScoreHandles$Real", name := "aligned", desc := "(JI)J" } : Jvm.MethodName)) ∈ lw_all := lw_in 556 (by decide +kernel) rfl
theorem qw558 : (Jvm.Cond.instanceMethod ({ cls := "ScoreHandles$Real", name := "aligned", desc := "(JI)J" } : Jvm.MethodName)) ∈ lw_all := lw_in 558 (by decide +kernel) rfl
theorem qw559 : (Jvm.Cond.code ({ cls := "ScoreHandles$Real", name := "aligned", desc := "(JI)J" } : Jvm.MethodName) prog_6_method_16_code (12 : Nat) (Option.some Jvm.ClassFile.FieldType.long)) ∈ lw_all := lw_in 559 (by decide +kernel) rfl
theorem qw560 : (Jvm.Cond.fieldLink "ScoreHandles$Runner" (185 : Nat) "ScoreHandles$Real" "DOUBLE" "LScoreHandles$Real;") ∈ lw_all := lw_in 560 (by decide +kernel) rfl
theorem qw561 : (Jvm.Cond.methodLink "ScoreHandles$Runner" (78 : Nat) ({ cls := "ScoreHandles$Runner", name := "quotient", desc := "(LScoreHandles$Handle;JJ)J" } : Jvm.MethodName)) ∈ lw_all := lw_in 561 (by decide +kernel) rfl
theorem qw563 : (Jvm.Cond.instanceMethod ({ cls := "ScoreHandles$Runner", name := "quotient", desc := "(LScoreHandles$Handle;JJ)J" } : Jvm.MethodName)) ∈ lw_all := lw_in 563 (by decide +kernel) rfl
theorem qw564 : (Jvm.Cond.code ({ cls := "ScoreHandles$Runner", name := "quotient", desc := "(LScoreHandles$Handle;JJ)J" } : Jvm.MethodName) prog_9_method_16_code (6 : Nat) (Option.some Jvm.ClassFile.FieldType.long)) ∈ lw_all := lw_in 564 (by decide +kernel) rfl
theorem qn565 : (Jvm.Cond.methodLinkNest "ScoreHandles$Runner" (188 : Nat) ({ cls := "ScoreHandles$Real", name := "quotientOf", desc := "(JJ)J" } : Jvm.MethodName) "ScoreHandles") ∈ lw_nest := lw_inN 565 (by decide +kernel) rfl
theorem qw567 : (Jvm.Cond.instanceMethod ({ cls := "ScoreHandles$Real", name := "quotientOf", desc := "(JJ)J" } : Jvm.MethodName)) ∈ lw_all := lw_in 567 (by decide +kernel) rfl
theorem qw568 : (Jvm.Cond.code ({ cls := "ScoreHandles$Real", name := "quotientOf", desc := "(JJ)J" } : Jvm.MethodName) prog_6_method_17_code (11 : Nat) (Option.some Jvm.ClassFile.FieldType.long)) ∈ lw_all := lw_in 568 (by decide +kernel) rfl
theorem qw569 : (Jvm.Cond.methodLink "ScoreHandles$Real" (95 : Nat) ({ cls := "ScoreHandles$Real", name := "divided", desc := "(ZJJ)J" } : Jvm.MethodName)) ∈ lw_all := lw_in 569 (by decide +kernel) rfl
theorem qw571 : (Jvm.Cond.instanceMethod ({ cls := "ScoreHandles$Real", name := "divided", desc := "(ZJJ)J" } : Jvm.MethodName)) ∈ lw_all := lw_in 571 (by decide +kernel) rfl
theorem qw572 : (Jvm.Cond.code ({ cls := "ScoreHandles$Real", name := "divided", desc := "(ZJJ)J" } : Jvm.MethodName) prog_6_method_18_code (16 : Nat) (Option.some Jvm.ClassFile.FieldType.long)) ∈ lw_all := lw_in 572 (by decide +kernel) rfl
theorem qw573 : (Jvm.Cond.fieldLink "ScoreHandles$Real" (7 : Nat) "ScoreHandles$Real" "DOUBLE" "LScoreHandles$Real;") ∈ lw_all := lw_in 573 (by decide +kernel) rfl
theorem qw574 : (Jvm.Cond.methodLink "ScoreHandles$Runner" (138 : Nat) ({ cls := "ScoreHandles$Runner", name := "fail", desc := "(LScoreHandles$Handle;I)J" } : Jvm.MethodName)) ∈ lw_all := lw_in 574 (by decide +kernel) rfl
theorem qw576 : (Jvm.Cond.instanceMethod ({ cls := "ScoreHandles$Runner", name := "fail", desc := "(LScoreHandles$Handle;I)J" } : Jvm.MethodName)) ∈ lw_all := lw_in 576 (by decide +kernel) rfl
theorem qw577 : (Jvm.Cond.code ({ cls := "ScoreHandles$Runner", name := "fail", desc := "(LScoreHandles$Handle;I)J" } : Jvm.MethodName) prog_9_method_7_code (3 : Nat) (Option.some Jvm.ClassFile.FieldType.long)) ∈ lw_all := lw_in 577 (by decide +kernel) rfl
theorem qw578 : (Jvm.Cond.methodLink "ScoreHandles$Runner" (82 : Nat) ({ cls := "ScoreHandles$Runner", name := "isAbove", desc := "(IJJ)Z" } : Jvm.MethodName)) ∈ lw_all := lw_in 578 (by decide +kernel) rfl
theorem qw579 : (Jvm.Cond.static ({ cls := "ScoreHandles$Runner", name := "isAbove", desc := "(IJJ)Z" } : Jvm.MethodName)) ∈ lw_all := lw_in 579 (by decide +kernel) rfl
theorem qw580 : (Jvm.Cond.code ({ cls := "ScoreHandles$Runner", name := "isAbove", desc := "(IJJ)Z" } : Jvm.MethodName) prog_9_method_17_code (5 : Nat) (Option.some Jvm.ClassFile.FieldType.boolean)) ∈ lw_all := lw_in 580 (by decide +kernel) rfl
theorem qn581 : (Jvm.Cond.methodLinkNest "ScoreHandles$Runner" (191 : Nat) ({ cls := "ScoreHandles$Real", name := "isAbove", desc := "(JJ)Z" } : Jvm.MethodName) "ScoreHandles") ∈ lw_nest := lw_inN 581 (by decide +kernel) rfl
theorem qw583 : (Jvm.Cond.instanceMethod ({ cls := "ScoreHandles$Real", name := "isAbove", desc := "(JJ)Z" } : Jvm.MethodName)) ∈ lw_all := lw_in 583 (by decide +kernel) rfl
theorem qw584 : (Jvm.Cond.code ({ cls := "ScoreHandles$Real", name := "isAbove", desc := "(JJ)Z" } : Jvm.MethodName) prog_6_method_12_code (5 : Nat) (Option.some Jvm.ClassFile.FieldType.boolean)) ∈ lw_all := lw_in 584 (by decide +kernel) rfl
theorem qw585 : (Jvm.Cond.methodLink "ScoreHandles$Real" (66 : Nat) ({ cls := "ScoreHandles$Real", name := "ordered", desc := "(J)J" } : Jvm.MethodName)) ∈ lw_all := lw_in 585 (by decide +kernel) rfl
theorem qw587 : (Jvm.Cond.instanceMethod ({ cls := "ScoreHandles$Real", name := "ordered", desc := "(J)J" } : Jvm.MethodName)) ∈ lw_all := lw_in 587 (by decide +kernel) rfl
theorem qw588 : (Jvm.Cond.code ({ cls := "ScoreHandles$Real", name := "ordered", desc := "(J)J" } : Jvm.MethodName) prog_6_method_13_code (3 : Nat) (Option.some Jvm.ClassFile.FieldType.long)) ∈ lw_all := lw_in 588 (by decide +kernel) rfl
theorem qw589 : (Jvm.Cond.methodLink "ScoreHandles$Runner" (86 : Nat) ({ cls := "ScoreHandles$Runner", name := "arrange", desc := "(LScoreHandles$Handle;I)J" } : Jvm.MethodName)) ∈ lw_all := lw_in 589 (by decide +kernel) rfl
theorem qw591 : (Jvm.Cond.instanceMethod ({ cls := "ScoreHandles$Runner", name := "arrange", desc := "(LScoreHandles$Handle;I)J" } : Jvm.MethodName)) ∈ lw_all := lw_in 591 (by decide +kernel) rfl
theorem qw592 : (Jvm.Cond.code ({ cls := "ScoreHandles$Runner", name := "arrange", desc := "(LScoreHandles$Handle;I)J" } : Jvm.MethodName) prog_9_method_18_code (4 : Nat) (Option.some Jvm.ClassFile.FieldType.long)) ∈ lw_all := lw_in 592 (by decide +kernel) rfl
theorem qw593 : (Jvm.Cond.methodLink "ScoreHandles$Runner" (194 : Nat) ({ cls := "ScoreHandles$Runner", name := "handOn", desc := "(III)V" } : Jvm.MethodName)) ∈ lw_all := lw_in 593 (by decide +kernel) rfl
theorem qw595 : (Jvm.Cond.instanceMethod ({ cls := "ScoreHandles$Runner", name := "handOn", desc := "(III)V" } : Jvm.MethodName)) ∈ lw_all := lw_in 595 (by decide +kernel) rfl
theorem qw596 : (Jvm.Cond.code ({ cls := "ScoreHandles$Runner", name := "handOn", desc := "(III)V" } : Jvm.MethodName) prog_9_method_6_code (6 : Nat) (Option.none : Option Jvm.ClassFile.FieldType)) ∈ lw_all := lw_in 596 (by decide +kernel) rfl
theorem qw597 : (Jvm.Cond.methodLink "ScoreHandles$Runner" (40 : Nat) ({ cls := "java/lang/Math", name := "max", desc := "(II)I" } : Jvm.MethodName)) ∈ lw_all := lw_in 597 (by decide +kernel) rfl
theorem qw598 : (Jvm.Cond.methodLink "ScoreHandles$Runner" (49 : Nat) ({ cls := "ScoreHandles$Runner", name := "hand", desc := "(IIJ)V" } : Jvm.MethodName)) ∈ lw_all := lw_in 598 (by decide +kernel) rfl
theorem qw599 : (Jvm.Cond.methodLink "ScoreHandles$Runner" (198 : Nat) ({ cls := "ScoreHandles$Runner", name := "perform", desc := "(II)J" } : Jvm.MethodName)) ∈ lw_all := lw_in 599 (by decide +kernel) rfl
theorem qw600 : (Jvm.Cond.methodLink "ScoreHandles$Runner" (90 : Nat) ({ cls := "ScoreHandles$Runner", name := "filter", desc := "(LScoreHandles$Handle;I)J" } : Jvm.MethodName)) ∈ lw_all := lw_in 600 (by decide +kernel) rfl
theorem qw602 : (Jvm.Cond.instanceMethod ({ cls := "ScoreHandles$Runner", name := "filter", desc := "(LScoreHandles$Handle;I)J" } : Jvm.MethodName)) ∈ lw_all := lw_in 602 (by decide +kernel) rfl
theorem qw603 : (Jvm.Cond.code ({ cls := "ScoreHandles$Runner", name := "filter", desc := "(LScoreHandles$Handle;I)J" } : Jvm.MethodName) prog_9_method_19_code (5 : Nat) (Option.some Jvm.ClassFile.FieldType.long)) ∈ lw_all := lw_in 603 (by decide +kernel) rfl
theorem qw604 : (Jvm.Cond.methodLink "ScoreHandles$Runner" (93 : Nat) ({ cls := "ScoreHandles$Runner", name := "fold", desc := "(LScoreHandles$Handle;I)J" } : Jvm.MethodName)) ∈ lw_all := lw_in 604 (by decide +kernel) rfl
theorem qw606 : (Jvm.Cond.instanceMethod ({ cls := "ScoreHandles$Runner", name := "fold", desc := "(LScoreHandles$Handle;I)J" } : Jvm.MethodName)) ∈ lw_all := lw_in 606 (by decide +kernel) rfl
theorem qw607 : (Jvm.Cond.code ({ cls := "ScoreHandles$Runner", name := "fold", desc := "(LScoreHandles$Handle;I)J" } : Jvm.MethodName) prog_9_method_20_code (5 : Nat) (Option.some Jvm.ClassFile.FieldType.long)) ∈ lw_all := lw_in 607 (by decide +kernel) rfl
theorem qw608 : (Jvm.Cond.methodLink "ScoreHandles$Runner" (96 : Nat) ({ cls := "ScoreHandles$Runner", name := "thenOther", desc := "(LScoreHandles$Handle;I)J" } : Jvm.MethodName)) ∈ lw_all := lw_in 608 (by decide +kernel) rfl
theorem qw610 : (Jvm.Cond.instanceMethod ({ cls := "ScoreHandles$Runner", name := "thenOther", desc := "(LScoreHandles$Handle;I)J" } : Jvm.MethodName)) ∈ lw_all := lw_in 610 (by decide +kernel) rfl
theorem qw611 : (Jvm.Cond.code ({ cls := "ScoreHandles$Runner", name := "thenOther", desc := "(LScoreHandles$Handle;I)J" } : Jvm.MethodName) prog_9_method_21_code (5 : Nat) (Option.some Jvm.ClassFile.FieldType.long)) ∈ lw_all := lw_in 611 (by decide +kernel) rfl
theorem qw612 : (Jvm.Cond.methodLink "ScoreHandles$Runner" (99 : Nat) ({ cls := "ScoreHandles$Runner", name := "guard", desc := "(LScoreHandles$Handle;I)J" } : Jvm.MethodName)) ∈ lw_all := lw_in 612 (by decide +kernel) rfl
theorem qw614 : (Jvm.Cond.instanceMethod ({ cls := "ScoreHandles$Runner", name := "guard", desc := "(LScoreHandles$Handle;I)J" } : Jvm.MethodName)) ∈ lw_all := lw_in 614 (by decide +kernel) rfl
theorem qw615 : (Jvm.Cond.code ({ cls := "ScoreHandles$Runner", name := "guard", desc := "(LScoreHandles$Handle;I)J" } : Jvm.MethodName) prog_9_method_22_code (5 : Nat) (Option.some Jvm.ClassFile.FieldType.long)) ∈ lw_all := lw_in 615 (by decide +kernel) rfl
theorem qw616 : (Jvm.Cond.methodLink "ScoreHandles$Runner" (102 : Nat) ({ cls := "ScoreHandles$Runner", name := "catchFailure", desc := "(LScoreHandles$Handle;I)J" } : Jvm.MethodName)) ∈ lw_all := lw_in 616 (by decide +kernel) rfl
theorem qw618 : (Jvm.Cond.instanceMethod ({ cls := "ScoreHandles$Runner", name := "catchFailure", desc := "(LScoreHandles$Handle;I)J" } : Jvm.MethodName)) ∈ lw_all := lw_in 618 (by decide +kernel) rfl
theorem qw619 : (Jvm.Cond.code ({ cls := "ScoreHandles$Runner", name := "catchFailure", desc := "(LScoreHandles$Handle;I)J" } : Jvm.MethodName) prog_9_method_23_code (6 : Nat) (Option.some Jvm.ClassFile.FieldType.long)) ∈ lw_all := lw_in 619 (by decide +kernel) rfl
theorem qw620 : (Jvm.Cond.methodLink "ScoreHandles$Runner" (105 : Nat) ({ cls := "ScoreHandles$Runner", name := "doAtLast", desc := "(LScoreHandles$Handle;I)J" } : Jvm.MethodName)) ∈ lw_all := lw_in 620 (by decide +kernel) rfl
theorem qw622 : (Jvm.Cond.instanceMethod ({ cls := "ScoreHandles$Runner", name := "doAtLast", desc := "(LScoreHandles$Handle;I)J" } : Jvm.MethodName)) ∈ lw_all := lw_in 622 (by decide +kernel) rfl
theorem qw623 : (Jvm.Cond.code ({ cls := "ScoreHandles$Runner", name := "doAtLast", desc := "(LScoreHandles$Handle;I)J" } : Jvm.MethodName) prog_9_method_24_code (8 : Nat) (Option.some Jvm.ClassFile.FieldType.long)) ∈ lw_all := lw_in 623 (by decide +kernel) rfl
theorem qn624 : (Jvm.Cond.methodLinkNest "ScoreHandles$Runner" (213 : Nat) ({ cls := "ScoreHandles$Kind", name := "nothing", desc := "(I)J" } : Jvm.MethodName) "ScoreHandles") ∈ lw_nest := lw_inN 624 (by decide +kernel) rfl
theorem qw625 : (Jvm.Cond.static ({ cls := "ScoreHandles$Kind", name := "nothing", desc := "(I)J" } : Jvm.MethodName)) ∈ lw_all := lw_in 625 (by decide +kernel) rfl
theorem qw626 : (Jvm.Cond.code ({ cls := "ScoreHandles$Kind", name := "nothing", desc := "(I)J" } : Jvm.MethodName) prog_4_method_9_code (1 : Nat) (Option.some Jvm.ClassFile.FieldType.long)) ∈ lw_all := lw_in 626 (by decide +kernel) rfl
theorem qw627 : (Jvm.Cond.constantLong "ScoreHandles$Kind" (34 : Nat) (-1 : Int64)) ∈ lw_all := lw_in 627 (by decide +kernel) rfl
theorem qw628 : (Jvm.Cond.methodLink "ScoreHandles$Runner" (108 : Nat) ({ cls := "ScoreHandles$Runner", name := "loop", desc := "(LScoreHandles$Handle;I)J" } : Jvm.MethodName)) ∈ lw_all := lw_in 628 (by decide +kernel) rfl
theorem qw630 : (Jvm.Cond.instanceMethod ({ cls := "ScoreHandles$Runner", name := "loop", desc := "(LScoreHandles$Handle;I)J" } : Jvm.MethodName)) ∈ lw_all := lw_in 630 (by decide +kernel) rfl
theorem qw631 : (Jvm.Cond.code ({ cls := "ScoreHandles$Runner", name := "loop", desc := "(LScoreHandles$Handle;I)J" } : Jvm.MethodName) prog_9_method_25_code (8 : Nat) (Option.some Jvm.ClassFile.FieldType.long)) ∈ lw_all := lw_in 631 (by decide +kernel) rfl
theorem qw632 : (Jvm.Cond.constantLong "ScoreHandles$Runner" (216 : Nat) (2001 : Int64)) ∈ lw_all := lw_in 632 (by decide +kernel) rfl
theorem qw633 : (Jvm.Cond.methodLink "ScoreHandles$Runner" (218 : Nat) ({ cls := "java/lang/Math", name := "min", desc := "(JJ)J" } : Jvm.MethodName)) ∈ lw_all := lw_in 633 (by decide +kernel) rfl
theorem qw634 : (Jvm.Cond.static ({ cls := "java/lang/Math", name := "min", desc := "(JJ)J" } : Jvm.MethodName)) ∈ lw_all := lw_in 634 (by decide +kernel) rfl
theorem qw635 : (Jvm.Cond.code ({ cls := "java/lang/Math", name := "min", desc := "(JJ)J" } : Jvm.MethodName) prog_17_method_70_code (4 : Nat) (Option.some Jvm.ClassFile.FieldType.long)) ∈ lw_all := lw_in 635 (by decide +kernel) rfl
theorem qw636 : (Jvm.Cond.methodLink "ScoreHandles$Runner" (111 : Nat) ({ cls := "ScoreHandles$Runner", name := "widen", desc := "(LScoreHandles$Handle;I)J" } : Jvm.MethodName)) ∈ lw_all := lw_in 636 (by decide +kernel) rfl
theorem qw638 : (Jvm.Cond.instanceMethod ({ cls := "ScoreHandles$Runner", name := "widen", desc := "(LScoreHandles$Handle;I)J" } : Jvm.MethodName)) ∈ lw_all := lw_in 638 (by decide +kernel) rfl
theorem qw639 : (Jvm.Cond.code ({ cls := "ScoreHandles$Runner", name := "widen", desc := "(LScoreHandles$Handle;I)J" } : Jvm.MethodName) prog_9_method_26_code (8 : Nat) (Option.some Jvm.ClassFile.FieldType.long)) ∈ lw_all := lw_in 639 (by decide +kernel) rfl
theorem qn640 : (Jvm.Cond.methodLinkNest "ScoreHandles$Runner" (221 : Nat) ({ cls := "ScoreHandles$Handles", name := "typeAt", desc := "(I)LScoreHandles$Type;" } : Jvm.MethodName) "ScoreHandles") ∈ lw_nest := lw_inN 640 (by decide +kernel) rfl
theorem qn641 : (Jvm.Cond.methodLinkNest "ScoreHandles$Runner" (227 : Nat) ({ cls := "ScoreHandles$Type", name := "kind", desc := "(I)I" } : Jvm.MethodName) "ScoreHandles") ∈ lw_nest := lw_inN 641 (by decide +kernel) rfl
theorem qn642 : (Jvm.Cond.methodLinkNest "ScoreHandles$Runner" (231 : Nat) ({ cls := "ScoreHandles$Kind", name := "widened", desc := "(IIJ)J" } : Jvm.MethodName) "ScoreHandles") ∈ lw_nest := lw_inN 642 (by decide +kernel) rfl
theorem qw643 : (Jvm.Cond.methodLink "ScoreHandles$Runner" (114 : Nat) ({ cls := "ScoreHandles$Runner", name := "act", desc := "(LScoreHandles$Handle;I)J" } : Jvm.MethodName)) ∈ lw_all := lw_in 643 (by decide +kernel) rfl
theorem qw645 : (Jvm.Cond.instanceMethod ({ cls := "ScoreHandles$Runner", name := "act", desc := "(LScoreHandles$Handle;I)J" } : Jvm.MethodName)) ∈ lw_all := lw_in 645 (by decide +kernel) rfl
theorem qw646 : (Jvm.Cond.code ({ cls := "ScoreHandles$Runner", name := "act", desc := "(LScoreHandles$Handle;I)J" } : Jvm.MethodName) prog_9_method_10_code (7 : Nat) (Option.some Jvm.ClassFile.FieldType.long)) ∈ lw_all := lw_in 646 (by decide +kernel) rfl
theorem qw647 : (Jvm.Cond.methodLink "ScoreHandles$Runner" (121 : Nat) ({ cls := "ScoreHandles$Runner", name := "read", desc := "(LScoreHandles$Handle;JJ)J" } : Jvm.MethodName)) ∈ lw_all := lw_in 647 (by decide +kernel) rfl
theorem qw649 : (Jvm.Cond.instanceMethod ({ cls := "ScoreHandles$Runner", name := "read", desc := "(LScoreHandles$Handle;JJ)J" } : Jvm.MethodName)) ∈ lw_all := lw_in 649 (by decide +kernel) rfl
theorem qw650 : (Jvm.Cond.code ({ cls := "ScoreHandles$Runner", name := "read", desc := "(LScoreHandles$Handle;JJ)J" } : Jvm.MethodName) prog_9_method_11_code (7 : Nat) (Option.some Jvm.ClassFile.FieldType.long)) ∈ lw_all := lw_in 650 (by decide +kernel) rfl
theorem qn651 : (Jvm.Cond.methodLinkNest "ScoreHandles$Runner" (149 : Nat) ({ cls := "ScoreHandles$Rows", name := "at", desc := "(J)LScoreHandles$Row;" } : Jvm.MethodName) "ScoreHandles") ∈ lw_nest := lw_inN 651 (by decide +kernel) rfl
theorem qn652 : (Jvm.Cond.methodLinkNest "ScoreHandles$Runner" (152 : Nat) ({ cls := "ScoreHandles$Row", name := "has", desc := "(J)Z" } : Jvm.MethodName) "ScoreHandles") ∈ lw_nest := lw_inN 652 (by decide +kernel) rfl
theorem qn653 : (Jvm.Cond.methodLinkNest "ScoreHandles$Runner" (158 : Nat) ({ cls := "ScoreHandles$Row", name := "get", desc := "(J)J" } : Jvm.MethodName) "ScoreHandles") ∈ lw_nest := lw_inN 653 (by decide +kernel) rfl
theorem qw654 : (Jvm.Cond.methodLink "ScoreHandles$Runner" (124 : Nat) ({ cls := "ScoreHandles$Runner", name := "write", desc := "(LScoreHandles$Handle;JJJ)J" } : Jvm.MethodName)) ∈ lw_all := lw_in 654 (by decide +kernel) rfl
theorem qw656 : (Jvm.Cond.instanceMethod ({ cls := "ScoreHandles$Runner", name := "write", desc := "(LScoreHandles$Handle;JJJ)J" } : Jvm.MethodName)) ∈ lw_all := lw_in 656 (by decide +kernel) rfl
theorem qw657 : (Jvm.Cond.code ({ cls := "ScoreHandles$Runner", name := "write", desc := "(LScoreHandles$Handle;JJJ)J" } : Jvm.MethodName) prog_9_method_12_code (11 : Nat) (Option.some Jvm.ClassFile.FieldType.long)) ∈ lw_all := lw_in 657 (by decide +kernel) rfl
theorem qn658 : (Jvm.Cond.methodLinkNest "ScoreHandles$Runner" (162 : Nat) ({ cls := "ScoreHandles$Row", name := "set", desc := "(JJ)V" } : Jvm.MethodName) "ScoreHandles") ∈ lw_nest := lw_inN 658 (by decide +kernel) rfl
theorem qw659 : (Jvm.Cond.methodLink "ScoreHandles$Runner" (128 : Nat) ({ cls := "ScoreHandles$Runner", name := "sizeOf", desc := "(LScoreHandles$Handle;J)J" } : Jvm.MethodName)) ∈ lw_all := lw_in 659 (by decide +kernel) rfl
theorem qw661 : (Jvm.Cond.instanceMethod ({ cls := "ScoreHandles$Runner", name := "sizeOf", desc := "(LScoreHandles$Handle;J)J" } : Jvm.MethodName)) ∈ lw_all := lw_in 661 (by decide +kernel) rfl
theorem qw662 : (Jvm.Cond.code ({ cls := "ScoreHandles$Runner", name := "sizeOf", desc := "(LScoreHandles$Handle;J)J" } : Jvm.MethodName) prog_9_method_13_code (5 : Nat) (Option.some Jvm.ClassFile.FieldType.long)) ∈ lw_all := lw_in 662 (by decide +kernel) rfl
theorem qn663 : (Jvm.Cond.methodLinkNest "ScoreHandles$Runner" (166 : Nat) ({ cls := "ScoreHandles$Row", name := "many", desc := "()I" } : Jvm.MethodName) "ScoreHandles") ∈ lw_nest := lw_inN 663 (by decide +kernel) rfl
theorem qw664 : (Jvm.Cond.methodLink "ScoreHandles$Runner" (132 : Nat) ({ cls := "ScoreHandles$Runner", name := "newRow", desc := "(LScoreHandles$Handle;J)J" } : Jvm.MethodName)) ∈ lw_all := lw_in 664 (by decide +kernel) rfl
theorem qw666 : (Jvm.Cond.instanceMethod ({ cls := "ScoreHandles$Runner", name := "newRow", desc := "(LScoreHandles$Handle;J)J" } : Jvm.MethodName)) ∈ lw_all := lw_in 666 (by decide +kernel) rfl
theorem qw667 : (Jvm.Cond.code ({ cls := "ScoreHandles$Runner", name := "newRow", desc := "(LScoreHandles$Handle;J)J" } : Jvm.MethodName) prog_9_method_14_code (5 : Nat) (Option.some Jvm.ClassFile.FieldType.long)) ∈ lw_all := lw_in 667 (by decide +kernel) rfl
theorem qw668 : (Jvm.Cond.constantLong "ScoreHandles$Runner" (170 : Nat) (8 : Int64)) ∈ lw_all := lw_in 668 (by decide +kernel) rfl
theorem qn669 : (Jvm.Cond.methodLinkNest "ScoreHandles$Runner" (172 : Nat) ({ cls := "ScoreHandles$Rows", name := "added", desc := "(II)I" } : Jvm.MethodName) "ScoreHandles") ∈ lw_nest := lw_inN 669 (by decide +kernel) rfl
theorem qn670 : (Jvm.Cond.methodLinkNest "ScoreHandles$Runner" (143 : Nat) ({ cls := "ScoreHandles$Rows", name := "mayBe", desc := "(IJ)Z" } : Jvm.MethodName) "ScoreHandles") ∈ lw_nest := lw_inN 670 (by decide +kernel) rfl
theorem qw671 : (Jvm.Cond.methodLink "ScoreHandlesLaw" (63 : Nat) ({ cls := "ScoreHandles", name := "value", desc := "()J" } : Jvm.MethodName)) ∈ lw_all := lw_in 671 (by decide +kernel) rfl
theorem qw672 : (Jvm.Cond.instanceMethod ({ cls := "ScoreHandles", name := "value", desc := "()J" } : Jvm.MethodName)) ∈ lw_all := lw_in 672 (by decide +kernel) rfl
theorem qw673 : (Jvm.Cond.selects "ScoreHandles" ({ cls := "ScoreHandles", name := "value", desc := "()J" } : Jvm.MethodName) ({ cls := "ScoreHandles", name := "value", desc := "()J" } : Jvm.MethodName)) ∈ lw_all := lw_in 673 (by decide +kernel) rfl
theorem qw674 : (Jvm.Cond.code ({ cls := "ScoreHandles", name := "value", desc := "()J" } : Jvm.MethodName) prog_1_method_12_code (1 : Nat) (Option.some Jvm.ClassFile.FieldType.long)) ∈ lw_all := lw_in 674 (by decide +kernel) rfl
theorem qw675 : (Jvm.Cond.methodLink "ScoreHandlesLaw" (68 : Nat) ({ cls := "ScoreHandles", name := "last", desc := "(I)I" } : Jvm.MethodName)) ∈ lw_all := lw_in 675 (by decide +kernel) rfl
theorem qw676 : (Jvm.Cond.instanceMethod ({ cls := "ScoreHandles", name := "last", desc := "(I)I" } : Jvm.MethodName)) ∈ lw_all := lw_in 676 (by decide +kernel) rfl
theorem qw677 : (Jvm.Cond.selects "ScoreHandles" ({ cls := "ScoreHandles", name := "last", desc := "(I)I" } : Jvm.MethodName) ({ cls := "ScoreHandles", name := "last", desc := "(I)I" } : Jvm.MethodName)) ∈ lw_all := lw_in 677 (by decide +kernel) rfl
theorem qw678 : (Jvm.Cond.code ({ cls := "ScoreHandles", name := "last", desc := "(I)I" } : Jvm.MethodName) prog_1_method_13_code (2 : Nat) (Option.some Jvm.ClassFile.FieldType.int)) ∈ lw_all := lw_in 678 (by decide +kernel) rfl
theorem qw679 : (Jvm.Cond.methodLink "ScoreHandlesLaw" (72 : Nat) ({ cls := "ScoreHandles", name := "count", desc := "(I)I" } : Jvm.MethodName)) ∈ lw_all := lw_in 679 (by decide +kernel) rfl
theorem qw680 : (Jvm.Cond.instanceMethod ({ cls := "ScoreHandles", name := "count", desc := "(I)I" } : Jvm.MethodName)) ∈ lw_all := lw_in 680 (by decide +kernel) rfl
theorem qw681 : (Jvm.Cond.selects "ScoreHandles" ({ cls := "ScoreHandles", name := "count", desc := "(I)I" } : Jvm.MethodName) ({ cls := "ScoreHandles", name := "count", desc := "(I)I" } : Jvm.MethodName)) ∈ lw_all := lw_in 681 (by decide +kernel) rfl
theorem qw682 : (Jvm.Cond.code ({ cls := "ScoreHandles", name := "count", desc := "(I)I" } : Jvm.MethodName) prog_1_method_14_code (2 : Nat) (Option.some Jvm.ClassFile.FieldType.int)) ∈ lw_all := lw_in 682 (by decide +kernel) rfl
theorem qw683 : (Jvm.Cond.classLink "ScoreHandlesLaw" (10 : Nat) "ScoreHandlesModel") ∈ lw_all := lw_in 683 (by decide +kernel) rfl
theorem qw684 : (Jvm.Cond.instantiable "ScoreHandlesModel" (36 : Nat)) ∈ lw_all := lw_in 684 (by decide +kernel) rfl
theorem qw685 : (Jvm.Cond.methodLink "ScoreHandlesLaw" (12 : Nat) ({ cls := "ScoreHandlesModel", name := "<init>", desc := "()V" } : Jvm.MethodName)) ∈ lw_all := lw_in 685 (by decide +kernel) rfl
theorem qw686 : (Jvm.Cond.instanceMethod ({ cls := "ScoreHandlesModel", name := "<init>", desc := "()V" } : Jvm.MethodName)) ∈ lw_all := lw_in 686 (by decide +kernel) rfl
theorem qw687 : (Jvm.Cond.code ({ cls := "ScoreHandlesModel", name := "<init>", desc := "()V" } : Jvm.MethodName) prog_13_method_1_code (1 : Nat) (Option.none : Option Jvm.ClassFile.FieldType)) ∈ lw_all := lw_in 687 (by decide +kernel) rfl
theorem qw688 : (Jvm.Cond.methodLink "ScoreHandlesModel" (1 : Nat) ({ cls := "java/lang/Object", name := "<init>", desc := "()V" } : Jvm.MethodName)) ∈ lw_all := lw_in 688 (by decide +kernel) rfl
theorem qw689 : (Jvm.Cond.fieldLink "ScoreHandlesModel" (86 : Nat) "ScoreHandlesModel" "rows" "I") ∈ lw_all := lw_in 689 (by decide +kernel) rfl
theorem qw690 : (Jvm.Cond.fieldLink "ScoreHandlesModel" (7 : Nat) "ScoreHandlesModel" "laneOf" "[I") ∈ lw_all := lw_in 690 (by decide +kernel) rfl
theorem qw691 : (Jvm.Cond.fieldLink "ScoreHandlesModel" (13 : Nat) "ScoreHandlesModel" "sizeOf" "[I") ∈ lw_all := lw_in 691 (by decide +kernel) rfl
theorem qw692 : (Jvm.Cond.fieldLink "ScoreHandlesModel" (16 : Nat) "ScoreHandlesModel" "items" "[J") ∈ lw_all := lw_in 692 (by decide +kernel) rfl
theorem qw693 : (Jvm.Cond.fieldLink "ScoreHandlesModel" (20 : Nat) "ScoreHandlesModel" "handResult" "I") ∈ lw_all := lw_in 693 (by decide +kernel) rfl
theorem qw694 : (Jvm.Cond.fieldLink "ScoreHandlesModel" (159 : Nat) "ScoreHandlesModel" "handMany" "I") ∈ lw_all := lw_in 694 (by decide +kernel) rfl
theorem qw695 : (Jvm.Cond.fieldLink "ScoreHandlesModel" (24 : Nat) "ScoreHandlesModel" "handKind" "[I") ∈ lw_all := lw_in 695 (by decide +kernel) rfl
theorem qw696 : (Jvm.Cond.fieldLink "ScoreHandlesModel" (27 : Nat) "ScoreHandlesModel" "given" "[J") ∈ lw_all := lw_in 696 (by decide +kernel) rfl
theorem qw697 : (Jvm.Cond.fieldLink "ScoreHandlesModel" (164 : Nat) "ScoreHandlesModel" "handles" "I") ∈ lw_all := lw_in 697 (by decide +kernel) rfl
theorem qw698 : (Jvm.Cond.fieldLink "ScoreHandlesModel" (30 : Nat) "ScoreHandlesModel" "sortOf" "[I") ∈ lw_all := lw_in 698 (by decide +kernel) rfl
theorem qw699 : (Jvm.Cond.fieldLink "ScoreHandlesModel" (33 : Nat) "ScoreHandlesModel" "aOf" "[I") ∈ lw_all := lw_in 699 (by decide +kernel) rfl
theorem qw700 : (Jvm.Cond.fieldLink "ScoreHandlesModel" (36 : Nat) "ScoreHandlesModel" "bOf" "[I") ∈ lw_all := lw_in 700 (by decide +kernel) rfl
theorem qw701 : (Jvm.Cond.fieldLink "ScoreHandlesModel" (39 : Nat) "ScoreHandlesModel" "cOf" "[I") ∈ lw_all := lw_in 701 (by decide +kernel) rfl
theorem qw702 : (Jvm.Cond.fieldLink "ScoreHandlesModel" (42 : Nat) "ScoreHandlesModel" "vOf" "[J") ∈ lw_all := lw_in 702 (by decide +kernel) rfl
theorem qw703 : (Jvm.Cond.fieldLink "ScoreHandlesModel" (45 : Nat) "ScoreHandlesModel" "manyOf" "[I") ∈ lw_all := lw_in 703 (by decide +kernel) rfl
theorem qw704 : (Jvm.Cond.fieldLink "ScoreHandlesModel" (48 : Nat) "ScoreHandlesModel" "kindOf" "[I") ∈ lw_all := lw_in 704 (by decide +kernel) rfl
theorem qw705 : (Jvm.Cond.fieldLink "ScoreHandlesModel" (51 : Nat) "ScoreHandlesModel" "resultOf" "[I") ∈ lw_all := lw_in 705 (by decide +kernel) rfl
theorem qw706 : (Jvm.Cond.fieldLink "ScoreHandlesModel" (187 : Nat) "ScoreHandlesModel" "madeA" "I") ∈ lw_all := lw_in 706 (by decide +kernel) rfl
theorem qw707 : (Jvm.Cond.fieldLink "ScoreHandlesModel" (190 : Nat) "ScoreHandlesModel" "madeB" "I") ∈ lw_all := lw_in 707 (by decide +kernel) rfl
theorem qw708 : (Jvm.Cond.fieldLink "ScoreHandlesModel" (203 : Nat) "ScoreHandlesModel" "madeC" "I") ∈ lw_all := lw_in 708 (by decide +kernel) rfl
theorem qw709 : (Jvm.Cond.fieldLink "ScoreHandlesModel" (193 : Nat) "ScoreHandlesModel" "madeV" "J") ∈ lw_all := lw_in 709 (by decide +kernel) rfl
theorem qw710 : (Jvm.Cond.fieldLink "ScoreHandlesModel" (263 : Nat) "ScoreHandlesModel" "depth" "I") ∈ lw_all := lw_in 710 (by decide +kernel) rfl
theorem qw711 : (Jvm.Cond.fieldLink "ScoreHandlesModel" (54 : Nat) "ScoreHandlesModel" "frame" "[I") ∈ lw_all := lw_in 711 (by decide +kernel) rfl
theorem qw712 : (Jvm.Cond.fieldLink "ScoreHandlesModel" (57 : Nat) "ScoreHandlesModel" "phase" "[I") ∈ lw_all := lw_in 712 (by decide +kernel) rfl
theorem qw713 : (Jvm.Cond.fieldLink "ScoreHandlesModel" (60 : Nat) "ScoreHandlesModel" "par" "[J") ∈ lw_all := lw_in 713 (by decide +kernel) rfl
theorem qw714 : (Jvm.Cond.fieldLink "ScoreHandlesModel" (63 : Nat) "ScoreHandlesModel" "held" "[J") ∈ lw_all := lw_in 714 (by decide +kernel) rfl
theorem qw715 : (Jvm.Cond.fieldLink "ScoreHandlesModel" (66 : Nat) "ScoreHandlesModel" "turn" "[I") ∈ lw_all := lw_in 715 (by decide +kernel) rfl
theorem qw716 : (Jvm.Cond.fieldLink "ScoreHandlesModel" (69 : Nat) "ScoreHandlesModel" "saved" "[I") ∈ lw_all := lw_in 716 (by decide +kernel) rfl
theorem qw717 : (Jvm.Cond.fieldLink "ScoreHandlesModel" (266 : Nat) "ScoreHandlesModel" "back" "J") ∈ lw_all := lw_in 717 (by decide +kernel) rfl
theorem qw718 : (Jvm.Cond.fieldLink "ScoreHandlesModel" (257 : Nat) "ScoreHandlesModel" "failure" "I") ∈ lw_all := lw_in 718 (by decide +kernel) rfl
theorem qw719 : (Jvm.Cond.fieldLink "ScoreHandlesModel" (260 : Nat) "ScoreHandlesModel" "steps" "I") ∈ lw_all := lw_in 719 (by decide +kernel) rfl
theorem qw720 : (Jvm.Cond.fieldLink "ScoreHandlesModel" (269 : Nat) "ScoreHandlesModel" "failures" "I") ∈ lw_all := lw_in 720 (by decide +kernel) rfl
theorem qw721 : (Jvm.Cond.fieldLink "ScoreHandlesModel" (72 : Nat) "ScoreHandlesModel" "blamed" "I") ∈ lw_all := lw_in 721 (by decide +kernel) rfl
theorem qw722 : (Jvm.Cond.fieldLink "ScoreHandlesModel" (327 : Nat) "ScoreHandlesModel" "runs" "I") ∈ lw_all := lw_in 722 (by decide +kernel) rfl
theorem qw723 : (Jvm.Cond.fieldLink "ScoreHandlesModel" (333 : Nat) "ScoreHandlesModel" "value" "J") ∈ lw_all := lw_in 723 (by decide +kernel) rfl
theorem qw724 : (Jvm.Cond.fieldLink "ScoreHandlesModel" (75 : Nat) "ScoreHandlesModel" "hand" "[J") ∈ lw_all := lw_in 724 (by decide +kernel) rfl
theorem qw725 : (Jvm.Cond.lays "ScoreHandlesModel" "ScoreHandlesModel" "rows" "I") ∈ lw_all := lw_in 725 (by decide +kernel) rfl
theorem qw727 : (Jvm.Cond.laysFinal "ScoreHandlesModel" "ScoreHandlesModel" "laneOf" "[I") ∈ lw_all := lw_in 727 (by decide +kernel) rfl
theorem qw729 : (Jvm.Cond.laysFinal "ScoreHandlesModel" "ScoreHandlesModel" "sizeOf" "[I") ∈ lw_all := lw_in 729 (by decide +kernel) rfl
theorem qw731 : (Jvm.Cond.laysFinal "ScoreHandlesModel" "ScoreHandlesModel" "items" "[J") ∈ lw_all := lw_in 731 (by decide +kernel) rfl
theorem qw733 : (Jvm.Cond.lays "ScoreHandlesModel" "ScoreHandlesModel" "handResult" "I") ∈ lw_all := lw_in 733 (by decide +kernel) rfl
theorem qw735 : (Jvm.Cond.lays "ScoreHandlesModel" "ScoreHandlesModel" "handMany" "I") ∈ lw_all := lw_in 735 (by decide +kernel) rfl
theorem qw737 : (Jvm.Cond.laysFinal "ScoreHandlesModel" "ScoreHandlesModel" "handKind" "[I") ∈ lw_all := lw_in 737 (by decide +kernel) rfl
theorem qw739 : (Jvm.Cond.laysFinal "ScoreHandlesModel" "ScoreHandlesModel" "given" "[J") ∈ lw_all := lw_in 739 (by decide +kernel) rfl
theorem qw741 : (Jvm.Cond.lays "ScoreHandlesModel" "ScoreHandlesModel" "handles" "I") ∈ lw_all := lw_in 741 (by decide +kernel) rfl
theorem qw743 : (Jvm.Cond.laysFinal "ScoreHandlesModel" "ScoreHandlesModel" "sortOf" "[I") ∈ lw_all := lw_in 743 (by decide +kernel) rfl
theorem qw745 : (Jvm.Cond.laysFinal "ScoreHandlesModel" "ScoreHandlesModel" "aOf" "[I") ∈ lw_all := lw_in 745 (by decide +kernel) rfl
theorem qw747 : (Jvm.Cond.laysFinal "ScoreHandlesModel" "ScoreHandlesModel" "bOf" "[I") ∈ lw_all := lw_in 747 (by decide +kernel) rfl
theorem qw749 : (Jvm.Cond.laysFinal "ScoreHandlesModel" "ScoreHandlesModel" "cOf" "[I") ∈ lw_all := lw_in 749 (by decide +kernel) rfl
theorem qw751 : (Jvm.Cond.laysFinal "ScoreHandlesModel" "ScoreHandlesModel" "vOf" "[J") ∈ lw_all := lw_in 751 (by decide +kernel) rfl
theorem qw753 : (Jvm.Cond.laysFinal "ScoreHandlesModel" "ScoreHandlesModel" "manyOf" "[I") ∈ lw_all := lw_in 753 (by decide +kernel) rfl
theorem qw755 : (Jvm.Cond.laysFinal "ScoreHandlesModel" "ScoreHandlesModel" "kindOf" "[I") ∈ lw_all := lw_in 755 (by decide +kernel) rfl
theorem qw757 : (Jvm.Cond.laysFinal "ScoreHandlesModel" "ScoreHandlesModel" "resultOf" "[I") ∈ lw_all := lw_in 757 (by decide +kernel) rfl
theorem qw759 : (Jvm.Cond.lays "ScoreHandlesModel" "ScoreHandlesModel" "madeA" "I") ∈ lw_all := lw_in 759 (by decide +kernel) rfl
theorem qw761 : (Jvm.Cond.lays "ScoreHandlesModel" "ScoreHandlesModel" "madeB" "I") ∈ lw_all := lw_in 761 (by decide +kernel) rfl
theorem qw763 : (Jvm.Cond.lays "ScoreHandlesModel" "ScoreHandlesModel" "madeC" "I") ∈ lw_all := lw_in 763 (by decide +kernel) rfl
theorem qw765 : (Jvm.Cond.lays "ScoreHandlesModel" "ScoreHandlesModel" "madeV" "J") ∈ lw_all := lw_in 765 (by decide +kernel) rfl
theorem qw767 : (Jvm.Cond.lays "ScoreHandlesModel" "ScoreHandlesModel" "depth" "I") ∈ lw_all := lw_in 767 (by decide +kernel) rfl
theorem qw769 : (Jvm.Cond.laysFinal "ScoreHandlesModel" "ScoreHandlesModel" "frame" "[I") ∈ lw_all := lw_in 769 (by decide +kernel) rfl
theorem qw771 : (Jvm.Cond.laysFinal "ScoreHandlesModel" "ScoreHandlesModel" "phase" "[I") ∈ lw_all := lw_in 771 (by decide +kernel) rfl
theorem qw773 : (Jvm.Cond.laysFinal "ScoreHandlesModel" "ScoreHandlesModel" "par" "[J") ∈ lw_all := lw_in 773 (by decide +kernel) rfl
theorem qw775 : (Jvm.Cond.laysFinal "ScoreHandlesModel" "ScoreHandlesModel" "held" "[J") ∈ lw_all := lw_in 775 (by decide +kernel) rfl
theorem qw777 : (Jvm.Cond.laysFinal "ScoreHandlesModel" "ScoreHandlesModel" "turn" "[I") ∈ lw_all := lw_in 777 (by decide +kernel) rfl
theorem qw779 : (Jvm.Cond.laysFinal "ScoreHandlesModel" "ScoreHandlesModel" "saved" "[I") ∈ lw_all := lw_in 779 (by decide +kernel) rfl
theorem qw781 : (Jvm.Cond.lays "ScoreHandlesModel" "ScoreHandlesModel" "back" "J") ∈ lw_all := lw_in 781 (by decide +kernel) rfl
theorem qw783 : (Jvm.Cond.lays "ScoreHandlesModel" "ScoreHandlesModel" "failure" "I") ∈ lw_all := lw_in 783 (by decide +kernel) rfl
theorem qw785 : (Jvm.Cond.lays "ScoreHandlesModel" "ScoreHandlesModel" "steps" "I") ∈ lw_all := lw_in 785 (by decide +kernel) rfl
theorem qw787 : (Jvm.Cond.lays "ScoreHandlesModel" "ScoreHandlesModel" "failures" "I") ∈ lw_all := lw_in 787 (by decide +kernel) rfl
theorem qw789 : (Jvm.Cond.lays "ScoreHandlesModel" "ScoreHandlesModel" "blamed" "I") ∈ lw_all := lw_in 789 (by decide +kernel) rfl
theorem qw791 : (Jvm.Cond.lays "ScoreHandlesModel" "ScoreHandlesModel" "runs" "I") ∈ lw_all := lw_in 791 (by decide +kernel) rfl
theorem qw793 : (Jvm.Cond.lays "ScoreHandlesModel" "ScoreHandlesModel" "value" "J") ∈ lw_all := lw_in 793 (by decide +kernel) rfl
theorem qw795 : (Jvm.Cond.laysFinal "ScoreHandlesModel" "ScoreHandlesModel" "hand" "[J") ∈ lw_all := lw_in 795 (by decide +kernel) rfl
theorem qw798 : (Jvm.Cond.methodLink "ScoreHandlesLaw" (17 : Nat) ({ cls := "ScoreHandlesModel", name := "row", desc := "(II)I" } : Jvm.MethodName)) ∈ lw_all := lw_in 798 (by decide +kernel) rfl
theorem qw799 : (Jvm.Cond.instanceMethod ({ cls := "ScoreHandlesModel", name := "row", desc := "(II)I" } : Jvm.MethodName)) ∈ lw_all := lw_in 799 (by decide +kernel) rfl
theorem qw800 : (Jvm.Cond.selects "ScoreHandlesModel" ({ cls := "ScoreHandlesModel", name := "row", desc := "(II)I" } : Jvm.MethodName) ({ cls := "ScoreHandlesModel", name := "row", desc := "(II)I" } : Jvm.MethodName)) ∈ lw_all := lw_in 800 (by decide +kernel) rfl
theorem qw801 : (Jvm.Cond.code ({ cls := "ScoreHandlesModel", name := "row", desc := "(II)I" } : Jvm.MethodName) prog_13_method_3_code (3 : Nat) (Option.some Jvm.ClassFile.FieldType.int)) ∈ lw_all := lw_in 801 (by decide +kernel) rfl
theorem qw802 : (Jvm.Cond.constantLong "ScoreHandlesModel" (78 : Nat) (7 : Int64)) ∈ lw_all := lw_in 802 (by decide +kernel) rfl
theorem qw803 : (Jvm.Cond.methodLink "ScoreHandlesModel" (80 : Nat) ({ cls := "ScoreHandlesModel", name := "in", desc := "(JJJ)Z" } : Jvm.MethodName)) ∈ lw_all := lw_in 803 (by decide +kernel) rfl
theorem qw804 : (Jvm.Cond.static ({ cls := "ScoreHandlesModel", name := "in", desc := "(JJJ)Z" } : Jvm.MethodName)) ∈ lw_all := lw_in 804 (by decide +kernel) rfl
theorem qw805 : (Jvm.Cond.code ({ cls := "ScoreHandlesModel", name := "in", desc := "(JJJ)Z" } : Jvm.MethodName) prog_13_method_2_code (6 : Nat) (Option.some Jvm.ClassFile.FieldType.boolean)) ∈ lw_all := lw_in 805 (by decide +kernel) rfl
theorem qw806 : (Jvm.Cond.constantLong "ScoreHandlesModel" (84 : Nat) (8 : Int64)) ∈ lw_all := lw_in 806 (by decide +kernel) rfl
theorem qw807 : (Jvm.Cond.methodLink "ScoreHandlesModel" (89 : Nat) ({ cls := "ScoreHandlesModel", name := "freshRow", desc := "(II)I" } : Jvm.MethodName)) ∈ lw_all := lw_in 807 (by decide +kernel) rfl
theorem qw809 : (Jvm.Cond.instanceMethod ({ cls := "ScoreHandlesModel", name := "freshRow", desc := "(II)I" } : Jvm.MethodName)) ∈ lw_all := lw_in 809 (by decide +kernel) rfl
theorem qw810 : (Jvm.Cond.code ({ cls := "ScoreHandlesModel", name := "freshRow", desc := "(II)I" } : Jvm.MethodName) prog_13_method_4_code (4 : Nat) (Option.some Jvm.ClassFile.FieldType.int)) ∈ lw_all := lw_in 810 (by decide +kernel) rfl
theorem qw811 : (Jvm.Cond.methodLink "ScoreHandlesLaw" (24 : Nat) ({ cls := "ScoreHandlesModel", name := "put", desc := "(IIJ)I" } : Jvm.MethodName)) ∈ lw_all := lw_in 811 (by decide +kernel) rfl
theorem qw812 : (Jvm.Cond.instanceMethod ({ cls := "ScoreHandlesModel", name := "put", desc := "(IIJ)I" } : Jvm.MethodName)) ∈ lw_all := lw_in 812 (by decide +kernel) rfl
theorem qw813 : (Jvm.Cond.selects "ScoreHandlesModel" ({ cls := "ScoreHandlesModel", name := "put", desc := "(IIJ)I" } : Jvm.MethodName) ({ cls := "ScoreHandlesModel", name := "put", desc := "(IIJ)I" } : Jvm.MethodName)) ∈ lw_all := lw_in 813 (by decide +kernel) rfl
theorem qw814 : (Jvm.Cond.code ({ cls := "ScoreHandlesModel", name := "put", desc := "(IIJ)I" } : Jvm.MethodName) prog_13_method_7_code (5 : Nat) (Option.some Jvm.ClassFile.FieldType.int)) ∈ lw_all := lw_in 814 (by decide +kernel) rfl
theorem qw815 : (Jvm.Cond.methodLink "ScoreHandlesModel" (97 : Nat) ({ cls := "ScoreHandlesModel", name := "isItem", desc := "(JJ)Z" } : Jvm.MethodName)) ∈ lw_all := lw_in 815 (by decide +kernel) rfl
theorem qw817 : (Jvm.Cond.instanceMethod ({ cls := "ScoreHandlesModel", name := "isItem", desc := "(JJ)Z" } : Jvm.MethodName)) ∈ lw_all := lw_in 817 (by decide +kernel) rfl
theorem qw818 : (Jvm.Cond.code ({ cls := "ScoreHandlesModel", name := "isItem", desc := "(JJ)Z" } : Jvm.MethodName) prog_13_method_6_code (5 : Nat) (Option.some Jvm.ClassFile.FieldType.boolean)) ∈ lw_all := lw_in 818 (by decide +kernel) rfl
theorem qw819 : (Jvm.Cond.methodLink "ScoreHandlesModel" (93 : Nat) ({ cls := "ScoreHandlesModel", name := "isRow", desc := "(J)Z" } : Jvm.MethodName)) ∈ lw_all := lw_in 819 (by decide +kernel) rfl
theorem qw821 : (Jvm.Cond.instanceMethod ({ cls := "ScoreHandlesModel", name := "isRow", desc := "(J)Z" } : Jvm.MethodName)) ∈ lw_all := lw_in 821 (by decide +kernel) rfl
theorem qw822 : (Jvm.Cond.code ({ cls := "ScoreHandlesModel", name := "isRow", desc := "(J)Z" } : Jvm.MethodName) prog_13_method_5_code (3 : Nat) (Option.some Jvm.ClassFile.FieldType.boolean)) ∈ lw_all := lw_in 822 (by decide +kernel) rfl
theorem qw823 : (Jvm.Cond.methodLink "ScoreHandlesModel" (101 : Nat) ({ cls := "ScoreHandlesModel", name := "cast", desc := "(JI)J" } : Jvm.MethodName)) ∈ lw_all := lw_in 823 (by decide +kernel) rfl
theorem qw824 : (Jvm.Cond.static ({ cls := "ScoreHandlesModel", name := "cast", desc := "(JI)J" } : Jvm.MethodName)) ∈ lw_all := lw_in 824 (by decide +kernel) rfl
theorem qw825 : (Jvm.Cond.code ({ cls := "ScoreHandlesModel", name := "cast", desc := "(JI)J" } : Jvm.MethodName) prog_13_method_10_code (3 : Nat) (Option.some Jvm.ClassFile.FieldType.long)) ∈ lw_all := lw_in 825 (by decide +kernel) rfl
theorem qw826 : (Jvm.Cond.constantLong "ScoreHandlesModel" (105 : Nat) (2147483647 : Int64)) ∈ lw_all := lw_in 826 (by decide +kernel) rfl
theorem qw827 : (Jvm.Cond.constantLong "ScoreHandlesModel" (107 : Nat) (2139095040 : Int64)) ∈ lw_all := lw_in 827 (by decide +kernel) rfl
theorem qw828 : (Jvm.Cond.constantLong "ScoreHandlesModel" (109 : Nat) (2143289344 : Int64)) ∈ lw_all := lw_in 828 (by decide +kernel) rfl
theorem qw829 : (Jvm.Cond.constantLong "ScoreHandlesModel" (111 : Nat) (9223372036854775807 : Int64)) ∈ lw_all := lw_in 829 (by decide +kernel) rfl
theorem qw830 : (Jvm.Cond.constantLong "ScoreHandlesModel" (113 : Nat) (9218868437227405312 : Int64)) ∈ lw_all := lw_in 830 (by decide +kernel) rfl
theorem qw831 : (Jvm.Cond.constantLong "ScoreHandlesModel" (115 : Nat) (9221120237041090560 : Int64)) ∈ lw_all := lw_in 831 (by decide +kernel) rfl
theorem qw832 : (Jvm.Cond.methodLink "ScoreHandlesLaw" (29 : Nat) ({ cls := "ScoreHandlesModel", name := "item", desc := "(II)J" } : Jvm.MethodName)) ∈ lw_all := lw_in 832 (by decide +kernel) rfl
theorem qw833 : (Jvm.Cond.instanceMethod ({ cls := "ScoreHandlesModel", name := "item", desc := "(II)J" } : Jvm.MethodName)) ∈ lw_all := lw_in 833 (by decide +kernel) rfl
theorem qw834 : (Jvm.Cond.selects "ScoreHandlesModel" ({ cls := "ScoreHandlesModel", name := "item", desc := "(II)J" } : Jvm.MethodName) ({ cls := "ScoreHandlesModel", name := "item", desc := "(II)J" } : Jvm.MethodName)) ∈ lw_all := lw_in 834 (by decide +kernel) rfl
theorem qw835 : (Jvm.Cond.code ({ cls := "ScoreHandlesModel", name := "item", desc := "(II)J" } : Jvm.MethodName) prog_13_method_8_code (3 : Nat) (Option.some Jvm.ClassFile.FieldType.long)) ∈ lw_all := lw_in 835 (by decide +kernel) rfl
theorem qw836 : (Jvm.Cond.methodLink "ScoreHandlesLaw" (34 : Nat) ({ cls := "ScoreHandlesModel", name := "size", desc := "(I)I" } : Jvm.MethodName)) ∈ lw_all := lw_in 836 (by decide +kernel) rfl
theorem qw837 : (Jvm.Cond.instanceMethod ({ cls := "ScoreHandlesModel", name := "size", desc := "(I)I" } : Jvm.MethodName)) ∈ lw_all := lw_in 837 (by decide +kernel) rfl
theorem qw838 : (Jvm.Cond.selects "ScoreHandlesModel" ({ cls := "ScoreHandlesModel", name := "size", desc := "(I)I" } : Jvm.MethodName) ({ cls := "ScoreHandlesModel", name := "size", desc := "(I)I" } : Jvm.MethodName)) ∈ lw_all := lw_in 838 (by decide +kernel) rfl
theorem qw839 : (Jvm.Cond.code ({ cls := "ScoreHandlesModel", name := "size", desc := "(I)I" } : Jvm.MethodName) prog_13_method_9_code (2 : Nat) (Option.some Jvm.ClassFile.FieldType.int)) ∈ lw_all := lw_in 839 (by decide +kernel) rfl
theorem qw840 : (Jvm.Cond.methodLink "ScoreHandlesLaw" (39 : Nat) ({ cls := "ScoreHandlesModel", name := "type", desc := "(IIIIII)I" } : Jvm.MethodName)) ∈ lw_all := lw_in 840 (by decide +kernel) rfl
theorem qw841 : (Jvm.Cond.instanceMethod ({ cls := "ScoreHandlesModel", name := "type", desc := "(IIIIII)I" } : Jvm.MethodName)) ∈ lw_all := lw_in 841 (by decide +kernel) rfl
theorem qw842 : (Jvm.Cond.selects "ScoreHandlesModel" ({ cls := "ScoreHandlesModel", name := "type", desc := "(IIIIII)I" } : Jvm.MethodName) ({ cls := "ScoreHandlesModel", name := "type", desc := "(IIIIII)I" } : Jvm.MethodName)) ∈ lw_all := lw_in 842 (by decide +kernel) rfl
theorem qw843 : (Jvm.Cond.code ({ cls := "ScoreHandlesModel", name := "type", desc := "(IIIIII)I" } : Jvm.MethodName) prog_13_method_21_code (8 : Nat) (Option.some Jvm.ClassFile.FieldType.int)) ∈ lw_all := lw_in 843 (by decide +kernel) rfl
theorem qw844 : (Jvm.Cond.methodLink "ScoreHandlesModel" (155 : Nat) ({ cls := "ScoreHandlesModel", name := "isKind", desc := "(I)Z" } : Jvm.MethodName)) ∈ lw_all := lw_in 844 (by decide +kernel) rfl
theorem qw845 : (Jvm.Cond.static ({ cls := "ScoreHandlesModel", name := "isKind", desc := "(I)Z" } : Jvm.MethodName)) ∈ lw_all := lw_in 845 (by decide +kernel) rfl
theorem qw846 : (Jvm.Cond.code ({ cls := "ScoreHandlesModel", name := "isKind", desc := "(I)Z" } : Jvm.MethodName) prog_13_method_19_code (1 : Nat) (Option.some Jvm.ClassFile.FieldType.boolean)) ∈ lw_all := lw_in 846 (by decide +kernel) rfl
theorem qw847 : (Jvm.Cond.constantLong "ScoreHandlesModel" (153 : Nat) (16 : Int64)) ∈ lw_all := lw_in 847 (by decide +kernel) rfl
theorem qw848 : (Jvm.Cond.constantLong "ScoreHandlesModel" (117 : Nat) (4 : Int64)) ∈ lw_all := lw_in 848 (by decide +kernel) rfl
theorem qw849 : (Jvm.Cond.methodLink "ScoreHandlesLaw" (44 : Nat) ({ cls := "ScoreHandlesModel", name := "make", desc := "(IIIIJ)I" } : Jvm.MethodName)) ∈ lw_all := lw_in 849 (by decide +kernel) rfl
theorem qw850 : (Jvm.Cond.instanceMethod ({ cls := "ScoreHandlesModel", name := "make", desc := "(IIIIJ)I" } : Jvm.MethodName)) ∈ lw_all := lw_in 850 (by decide +kernel) rfl
theorem qw851 : (Jvm.Cond.selects "ScoreHandlesModel" ({ cls := "ScoreHandlesModel", name := "make", desc := "(IIIIJ)I" } : Jvm.MethodName) ({ cls := "ScoreHandlesModel", name := "make", desc := "(IIIIJ)I" } : Jvm.MethodName)) ∈ lw_all := lw_in 851 (by decide +kernel) rfl
theorem qw852 : (Jvm.Cond.code ({ cls := "ScoreHandlesModel", name := "make", desc := "(IIIIJ)I" } : Jvm.MethodName) prog_13_method_37_code (9 : Nat) (Option.some Jvm.ClassFile.FieldType.int)) ∈ lw_all := lw_in 852 (by decide +kernel) rfl
theorem qw853 : (Jvm.Cond.constantLong "ScoreHandlesModel" (223 : Nat) (22 : Int64)) ∈ lw_all := lw_in 853 (by decide +kernel) rfl
theorem qw854 : (Jvm.Cond.methodLink "ScoreHandlesModel" (225 : Nat) ({ cls := "ScoreHandlesModel", name := "makeFirst", desc := "(IIIJ)I" } : Jvm.MethodName)) ∈ lw_all := lw_in 854 (by decide +kernel) rfl
theorem qw856 : (Jvm.Cond.instanceMethod ({ cls := "ScoreHandlesModel", name := "makeFirst", desc := "(IIIJ)I" } : Jvm.MethodName)) ∈ lw_all := lw_in 856 (by decide +kernel) rfl
theorem qw857 : (Jvm.Cond.code ({ cls := "ScoreHandlesModel", name := "makeFirst", desc := "(IIIJ)I" } : Jvm.MethodName) prog_13_method_30_code (8 : Nat) (Option.some Jvm.ClassFile.FieldType.int)) ∈ lw_all := lw_in 857 (by decide +kernel) rfl
theorem qw858 : (Jvm.Cond.methodLink "ScoreHandlesModel" (178 : Nat) ({ cls := "ScoreHandlesModel", name := "isLane", desc := "(I)Z" } : Jvm.MethodName)) ∈ lw_all := lw_in 858 (by decide +kernel) rfl
theorem qw859 : (Jvm.Cond.static ({ cls := "ScoreHandlesModel", name := "isLane", desc := "(I)Z" } : Jvm.MethodName)) ∈ lw_all := lw_in 859 (by decide +kernel) rfl
theorem qw860 : (Jvm.Cond.code ({ cls := "ScoreHandlesModel", name := "isLane", desc := "(I)Z" } : Jvm.MethodName) prog_13_method_20_code (1 : Nat) (Option.some Jvm.ClassFile.FieldType.boolean)) ∈ lw_all := lw_in 860 (by decide +kernel) rfl
theorem qw861 : (Jvm.Cond.constantLong "ScoreHandlesModel" (181 : Nat) (9 : Int64)) ∈ lw_all := lw_in 861 (by decide +kernel) rfl
theorem qw862 : (Jvm.Cond.methodLink "ScoreHandlesModel" (183 : Nat) ({ cls := "ScoreHandlesModel", name := "isValue", desc := "(IJ)Z" } : Jvm.MethodName)) ∈ lw_all := lw_in 862 (by decide +kernel) rfl
theorem qw864 : (Jvm.Cond.instanceMethod ({ cls := "ScoreHandlesModel", name := "isValue", desc := "(IJ)Z" } : Jvm.MethodName)) ∈ lw_all := lw_in 864 (by decide +kernel) rfl
theorem qw865 : (Jvm.Cond.code ({ cls := "ScoreHandlesModel", name := "isValue", desc := "(IJ)Z" } : Jvm.MethodName) prog_13_method_22_code (4 : Nat) (Option.some Jvm.ClassFile.FieldType.boolean)) ∈ lw_all := lw_in 865 (by decide +kernel) rfl
theorem qw866 : (Jvm.Cond.constantLong "ScoreHandlesModel" (162 : Nat) (-1 : Int64)) ∈ lw_all := lw_in 866 (by decide +kernel) rfl
theorem qw867 : (Jvm.Cond.methodLink "ScoreHandlesModel" (197 : Nat) ({ cls := "ScoreHandlesModel", name := "gives", desc := "(I)V" } : Jvm.MethodName)) ∈ lw_all := lw_in 867 (by decide +kernel) rfl
theorem qw869 : (Jvm.Cond.instanceMethod ({ cls := "ScoreHandlesModel", name := "gives", desc := "(I)V" } : Jvm.MethodName)) ∈ lw_all := lw_in 869 (by decide +kernel) rfl
theorem qw870 : (Jvm.Cond.code ({ cls := "ScoreHandlesModel", name := "gives", desc := "(I)V" } : Jvm.MethodName) prog_13_method_26_code (2 : Nat) (Option.none : Option Jvm.ClassFile.FieldType)) ∈ lw_all := lw_in 870 (by decide +kernel) rfl
theorem qw871 : (Jvm.Cond.methodLink "ScoreHandlesModel" (170 : Nat) ({ cls := "ScoreHandlesModel", name := "takes", desc := "(I)V" } : Jvm.MethodName)) ∈ lw_all := lw_in 871 (by decide +kernel) rfl
theorem qw873 : (Jvm.Cond.instanceMethod ({ cls := "ScoreHandlesModel", name := "takes", desc := "(I)V" } : Jvm.MethodName)) ∈ lw_all := lw_in 873 (by decide +kernel) rfl
theorem qw874 : (Jvm.Cond.code ({ cls := "ScoreHandlesModel", name := "takes", desc := "(I)V" } : Jvm.MethodName) prog_13_method_25_code (2 : Nat) (Option.none : Option Jvm.ClassFile.FieldType)) ∈ lw_all := lw_in 874 (by decide +kernel) rfl
theorem qw875 : (Jvm.Cond.methodLink "ScoreHandlesModel" (229 : Nat) ({ cls := "ScoreHandlesModel", name := "makeFilter", desc := "(III)I" } : Jvm.MethodName)) ∈ lw_all := lw_in 875 (by decide +kernel) rfl
theorem qw877 : (Jvm.Cond.instanceMethod ({ cls := "ScoreHandlesModel", name := "makeFilter", desc := "(III)I" } : Jvm.MethodName)) ∈ lw_all := lw_in 877 (by decide +kernel) rfl
theorem qw878 : (Jvm.Cond.code ({ cls := "ScoreHandlesModel", name := "makeFilter", desc := "(III)I" } : Jvm.MethodName) prog_13_method_33_code (5 : Nat) (Option.some Jvm.ClassFile.FieldType.int)) ∈ lw_all := lw_in 878 (by decide +kernel) rfl
theorem qw879 : (Jvm.Cond.methodLink "ScoreHandlesModel" (200 : Nat) ({ cls := "ScoreHandlesModel", name := "isHandle", desc := "(I)Z" } : Jvm.MethodName)) ∈ lw_all := lw_in 879 (by decide +kernel) rfl
theorem qw881 : (Jvm.Cond.instanceMethod ({ cls := "ScoreHandlesModel", name := "isHandle", desc := "(I)Z" } : Jvm.MethodName)) ∈ lw_all := lw_in 881 (by decide +kernel) rfl
theorem qw882 : (Jvm.Cond.code ({ cls := "ScoreHandlesModel", name := "isHandle", desc := "(I)Z" } : Jvm.MethodName) prog_13_method_23_code (2 : Nat) (Option.some Jvm.ClassFile.FieldType.boolean)) ∈ lw_all := lw_in 882 (by decide +kernel) rfl
theorem qw883 : (Jvm.Cond.methodLink "ScoreHandlesModel" (167 : Nat) ({ cls := "ScoreHandlesModel", name := "kind", desc := "(II)I" } : Jvm.MethodName)) ∈ lw_all := lw_in 883 (by decide +kernel) rfl
theorem qw885 : (Jvm.Cond.instanceMethod ({ cls := "ScoreHandlesModel", name := "kind", desc := "(II)I" } : Jvm.MethodName)) ∈ lw_all := lw_in 885 (by decide +kernel) rfl
theorem qw886 : (Jvm.Cond.code ({ cls := "ScoreHandlesModel", name := "kind", desc := "(II)I" } : Jvm.MethodName) prog_13_method_24_code (3 : Nat) (Option.some Jvm.ClassFile.FieldType.int)) ∈ lw_all := lw_in 886 (by decide +kernel) rfl
theorem qw887 : (Jvm.Cond.methodLink "ScoreHandlesModel" (233 : Nat) ({ cls := "ScoreHandlesModel", name := "makeGuard", desc := "(III)I" } : Jvm.MethodName)) ∈ lw_all := lw_in 887 (by decide +kernel) rfl
theorem qw889 : (Jvm.Cond.instanceMethod ({ cls := "ScoreHandlesModel", name := "makeGuard", desc := "(III)I" } : Jvm.MethodName)) ∈ lw_all := lw_in 889 (by decide +kernel) rfl
theorem qw890 : (Jvm.Cond.code ({ cls := "ScoreHandlesModel", name := "makeGuard", desc := "(III)I" } : Jvm.MethodName) prog_13_method_34_code (4 : Nat) (Option.some Jvm.ClassFile.FieldType.int)) ∈ lw_all := lw_in 890 (by decide +kernel) rfl
theorem qw891 : (Jvm.Cond.methodLink "ScoreHandlesModel" (206 : Nat) ({ cls := "ScoreHandlesModel", name := "takesOf", desc := "(II)V" } : Jvm.MethodName)) ∈ lw_all := lw_in 891 (by decide +kernel) rfl
theorem qw893 : (Jvm.Cond.instanceMethod ({ cls := "ScoreHandlesModel", name := "takesOf", desc := "(II)V" } : Jvm.MethodName)) ∈ lw_all := lw_in 893 (by decide +kernel) rfl
theorem qw894 : (Jvm.Cond.code ({ cls := "ScoreHandlesModel", name := "takesOf", desc := "(II)V" } : Jvm.MethodName) prog_13_method_27_code (4 : Nat) (Option.none : Option Jvm.ClassFile.FieldType)) ∈ lw_all := lw_in 894 (by decide +kernel) rfl
theorem qw895 : (Jvm.Cond.methodLink "ScoreHandlesModel" (213 : Nat) ({ cls := "ScoreHandlesModel", name := "isAlike", desc := "(II)Z" } : Jvm.MethodName)) ∈ lw_all := lw_in 895 (by decide +kernel) rfl
theorem qw897 : (Jvm.Cond.instanceMethod ({ cls := "ScoreHandlesModel", name := "isAlike", desc := "(II)Z" } : Jvm.MethodName)) ∈ lw_all := lw_in 897 (by decide +kernel) rfl
theorem qw898 : (Jvm.Cond.code ({ cls := "ScoreHandlesModel", name := "isAlike", desc := "(II)Z" } : Jvm.MethodName) prog_13_method_29_code (3 : Nat) (Option.some Jvm.ClassFile.FieldType.boolean)) ∈ lw_all := lw_in 898 (by decide +kernel) rfl
theorem qw899 : (Jvm.Cond.methodLink "ScoreHandlesModel" (174 : Nat) ({ cls := "ScoreHandlesModel", name := "isFirst", desc := "(IIII)Z" } : Jvm.MethodName)) ∈ lw_all := lw_in 899 (by decide +kernel) rfl
theorem qw901 : (Jvm.Cond.instanceMethod ({ cls := "ScoreHandlesModel", name := "isFirst", desc := "(IIII)Z" } : Jvm.MethodName)) ∈ lw_all := lw_in 901 (by decide +kernel) rfl
theorem qw902 : (Jvm.Cond.code ({ cls := "ScoreHandlesModel", name := "isFirst", desc := "(IIII)Z" } : Jvm.MethodName) prog_13_method_28_code (7 : Nat) (Option.some Jvm.ClassFile.FieldType.boolean)) ∈ lw_all := lw_in 902 (by decide +kernel) rfl
theorem qw903 : (Jvm.Cond.methodLink "ScoreHandlesModel" (236 : Nat) ({ cls := "ScoreHandlesModel", name := "makeCatch", desc := "(III)I" } : Jvm.MethodName)) ∈ lw_all := lw_in 903 (by decide +kernel) rfl
theorem qw905 : (Jvm.Cond.instanceMethod ({ cls := "ScoreHandlesModel", name := "makeCatch", desc := "(III)I" } : Jvm.MethodName)) ∈ lw_all := lw_in 905 (by decide +kernel) rfl
theorem qw906 : (Jvm.Cond.code ({ cls := "ScoreHandlesModel", name := "makeCatch", desc := "(III)I" } : Jvm.MethodName) prog_13_method_35_code (4 : Nat) (Option.some Jvm.ClassFile.FieldType.int)) ∈ lw_all := lw_in 906 (by decide +kernel) rfl
theorem qw907 : (Jvm.Cond.constantLong "ScoreHandlesModel" (217 : Nat) (6 : Int64)) ∈ lw_all := lw_in 907 (by decide +kernel) rfl
theorem qw908 : (Jvm.Cond.constantLong "ScoreHandlesModel" (219 : Nat) (20 : Int64)) ∈ lw_all := lw_in 908 (by decide +kernel) rfl
theorem qw909 : (Jvm.Cond.constantLong "ScoreHandlesModel" (221 : Nat) (29 : Int64)) ∈ lw_all := lw_in 909 (by decide +kernel) rfl
theorem qw910 : (Jvm.Cond.methodLink "ScoreHandlesModel" (239 : Nat) ({ cls := "ScoreHandlesModel", name := "makeTwo", desc := "(III)I" } : Jvm.MethodName)) ∈ lw_all := lw_in 910 (by decide +kernel) rfl
theorem qw912 : (Jvm.Cond.instanceMethod ({ cls := "ScoreHandlesModel", name := "makeTwo", desc := "(III)I" } : Jvm.MethodName)) ∈ lw_all := lw_in 912 (by decide +kernel) rfl
theorem qw913 : (Jvm.Cond.code ({ cls := "ScoreHandlesModel", name := "makeTwo", desc := "(III)I" } : Jvm.MethodName) prog_13_method_32_code (5 : Nat) (Option.some Jvm.ClassFile.FieldType.int)) ∈ lw_all := lw_in 913 (by decide +kernel) rfl
theorem qw914 : (Jvm.Cond.methodLink "ScoreHandlesModel" (242 : Nat) ({ cls := "ScoreHandlesModel", name := "makeOne", desc := "(IIIIJ)I" } : Jvm.MethodName)) ∈ lw_all := lw_in 914 (by decide +kernel) rfl
theorem qw916 : (Jvm.Cond.instanceMethod ({ cls := "ScoreHandlesModel", name := "makeOne", desc := "(IIIIJ)I" } : Jvm.MethodName)) ∈ lw_all := lw_in 916 (by decide +kernel) rfl
theorem qw917 : (Jvm.Cond.code ({ cls := "ScoreHandlesModel", name := "makeOne", desc := "(IIIIJ)I" } : Jvm.MethodName) prog_13_method_31_code (9 : Nat) (Option.some Jvm.ClassFile.FieldType.int)) ∈ lw_all := lw_in 917 (by decide +kernel) rfl
theorem qw918 : (Jvm.Cond.methodLink "ScoreHandlesModel" (210 : Nat) ({ cls := "ScoreHandlesModel", name := "handGoes", desc := "(I)Z" } : Jvm.MethodName)) ∈ lw_all := lw_in 918 (by decide +kernel) rfl
theorem qw920 : (Jvm.Cond.instanceMethod ({ cls := "ScoreHandlesModel", name := "handGoes", desc := "(I)Z" } : Jvm.MethodName)) ∈ lw_all := lw_in 920 (by decide +kernel) rfl
theorem qw921 : (Jvm.Cond.code ({ cls := "ScoreHandlesModel", name := "handGoes", desc := "(I)Z" } : Jvm.MethodName) prog_13_method_39_code (4 : Nat) (Option.some Jvm.ClassFile.FieldType.boolean)) ∈ lw_all := lw_in 921 (by decide +kernel) rfl
theorem qw922 : (Jvm.Cond.methodLink "ScoreHandlesModel" (249 : Nat) ({ cls := "ScoreHandlesModel", name := "goes", desc := "(II)Z" } : Jvm.MethodName)) ∈ lw_all := lw_in 922 (by decide +kernel) rfl
theorem qw923 : (Jvm.Cond.static ({ cls := "ScoreHandlesModel", name := "goes", desc := "(II)Z" } : Jvm.MethodName)) ∈ lw_all := lw_in 923 (by decide +kernel) rfl
theorem qw924 : (Jvm.Cond.code ({ cls := "ScoreHandlesModel", name := "goes", desc := "(II)Z" } : Jvm.MethodName) prog_13_method_11_code (2 : Nat) (Option.some Jvm.ClassFile.FieldType.boolean)) ∈ lw_all := lw_in 924 (by decide +kernel) rfl
theorem qw925 : (Jvm.Cond.methodLink "ScoreHandlesModel" (246 : Nat) ({ cls := "ScoreHandlesModel", name := "isOne", desc := "(II)Z" } : Jvm.MethodName)) ∈ lw_all := lw_in 925 (by decide +kernel) rfl
theorem qw927 : (Jvm.Cond.instanceMethod ({ cls := "ScoreHandlesModel", name := "isOne", desc := "(II)Z" } : Jvm.MethodName)) ∈ lw_all := lw_in 927 (by decide +kernel) rfl
theorem qw928 : (Jvm.Cond.code ({ cls := "ScoreHandlesModel", name := "isOne", desc := "(II)Z" } : Jvm.MethodName) prog_13_method_36_code (4 : Nat) (Option.some Jvm.ClassFile.FieldType.boolean)) ∈ lw_all := lw_in 928 (by decide +kernel) rfl
theorem qw929 : (Jvm.Cond.methodLink "ScoreHandlesLaw" (48 : Nat) ({ cls := "ScoreHandlesModel", name := "told", desc := "(II)I" } : Jvm.MethodName)) ∈ lw_all := lw_in 929 (by decide +kernel) rfl
theorem qw930 : (Jvm.Cond.instanceMethod ({ cls := "ScoreHandlesModel", name := "told", desc := "(II)I" } : Jvm.MethodName)) ∈ lw_all := lw_in 930 (by decide +kernel) rfl
theorem qw931 : (Jvm.Cond.selects "ScoreHandlesModel" ({ cls := "ScoreHandlesModel", name := "told", desc := "(II)I" } : Jvm.MethodName) ({ cls := "ScoreHandlesModel", name := "told", desc := "(II)I" } : Jvm.MethodName)) ∈ lw_all := lw_in 931 (by decide +kernel) rfl
theorem qw932 : (Jvm.Cond.code ({ cls := "ScoreHandlesModel", name := "told", desc := "(II)I" } : Jvm.MethodName) prog_13_method_38_code (3 : Nat) (Option.some Jvm.ClassFile.FieldType.int)) ∈ lw_all := lw_in 932 (by decide +kernel) rfl
theorem qw933 : (Jvm.Cond.methodLink "ScoreHandlesLaw" (52 : Nat) ({ cls := "ScoreHandlesModel", name := "fits", desc := "(I)I" } : Jvm.MethodName)) ∈ lw_all := lw_in 933 (by decide +kernel) rfl
theorem qw934 : (Jvm.Cond.instanceMethod ({ cls := "ScoreHandlesModel", name := "fits", desc := "(I)I" } : Jvm.MethodName)) ∈ lw_all := lw_in 934 (by decide +kernel) rfl
theorem qw935 : (Jvm.Cond.selects "ScoreHandlesModel" ({ cls := "ScoreHandlesModel", name := "fits", desc := "(I)I" } : Jvm.MethodName) ({ cls := "ScoreHandlesModel", name := "fits", desc := "(I)I" } : Jvm.MethodName)) ∈ lw_all := lw_in 935 (by decide +kernel) rfl
theorem qw936 : (Jvm.Cond.code ({ cls := "ScoreHandlesModel", name := "fits", desc := "(I)I" } : Jvm.MethodName) prog_13_method_41_code (2 : Nat) (Option.some Jvm.ClassFile.FieldType.int)) ∈ lw_all := lw_in 936 (by decide +kernel) rfl
theorem qw937 : (Jvm.Cond.methodLink "ScoreHandlesModel" (252 : Nat) ({ cls := "ScoreHandlesModel", name := "isHand", desc := "(I)Z" } : Jvm.MethodName)) ∈ lw_all := lw_in 937 (by decide +kernel) rfl
theorem qw939 : (Jvm.Cond.instanceMethod ({ cls := "ScoreHandlesModel", name := "isHand", desc := "(I)Z" } : Jvm.MethodName)) ∈ lw_all := lw_in 939 (by decide +kernel) rfl
theorem qw940 : (Jvm.Cond.code ({ cls := "ScoreHandlesModel", name := "isHand", desc := "(I)Z" } : Jvm.MethodName) prog_13_method_40_code (4 : Nat) (Option.some Jvm.ClassFile.FieldType.boolean)) ∈ lw_all := lw_in 940 (by decide +kernel) rfl
theorem qw941 : (Jvm.Cond.methodLink "ScoreHandlesLaw" (57 : Nat) ({ cls := "ScoreHandlesModel", name := "give", desc := "(IJ)I" } : Jvm.MethodName)) ∈ lw_all := lw_in 941 (by decide +kernel) rfl
theorem qw942 : (Jvm.Cond.instanceMethod ({ cls := "ScoreHandlesModel", name := "give", desc := "(IJ)I" } : Jvm.MethodName)) ∈ lw_all := lw_in 942 (by decide +kernel) rfl
theorem qw943 : (Jvm.Cond.selects "ScoreHandlesModel" ({ cls := "ScoreHandlesModel", name := "give", desc := "(IJ)I" } : Jvm.MethodName) ({ cls := "ScoreHandlesModel", name := "give", desc := "(IJ)I" } : Jvm.MethodName)) ∈ lw_all := lw_in 943 (by decide +kernel) rfl
theorem qw944 : (Jvm.Cond.code ({ cls := "ScoreHandlesModel", name := "give", desc := "(IJ)I" } : Jvm.MethodName) prog_13_method_42_code (4 : Nat) (Option.some Jvm.ClassFile.FieldType.int)) ∈ lw_all := lw_in 944 (by decide +kernel) rfl
theorem qw945 : (Jvm.Cond.constantLong "ScoreHandlesModel" (255 : Nat) (3 : Int64)) ∈ lw_all := lw_in 945 (by decide +kernel) rfl
theorem qw946 : (Jvm.Cond.methodLink "ScoreHandlesLaw" (62 : Nat) ({ cls := "ScoreHandlesModel", name := "run", desc := "(IZ)I" } : Jvm.MethodName)) ∈ lw_all := lw_in 946 (by decide +kernel) rfl
theorem qw947 : (Jvm.Cond.instanceMethod ({ cls := "ScoreHandlesModel", name := "run", desc := "(IZ)I" } : Jvm.MethodName)) ∈ lw_all := lw_in 947 (by decide +kernel) rfl
theorem qw948 : (Jvm.Cond.selects "ScoreHandlesModel" ({ cls := "ScoreHandlesModel", name := "run", desc := "(IZ)I" } : Jvm.MethodName) ({ cls := "ScoreHandlesModel", name := "run", desc := "(IZ)I" } : Jvm.MethodName)) ∈ lw_all := lw_in 948 (by decide +kernel) rfl
theorem qw949 : (Jvm.Cond.code ({ cls := "ScoreHandlesModel", name := "run", desc := "(IZ)I" } : Jvm.MethodName) prog_13_method_58_code (4 : Nat) (Option.some Jvm.ClassFile.FieldType.int)) ∈ lw_all := lw_in 949 (by decide +kernel) rfl
theorem qw950 : (Jvm.Cond.methodLink "ScoreHandlesModel" (296 : Nat) ({ cls := "ScoreHandlesModel", name := "widen", desc := "(JII)J" } : Jvm.MethodName)) ∈ lw_all := lw_in 950 (by decide +kernel) rfl
theorem qw951 : (Jvm.Cond.static ({ cls := "ScoreHandlesModel", name := "widen", desc := "(JII)J" } : Jvm.MethodName)) ∈ lw_all := lw_in 951 (by decide +kernel) rfl
theorem qw952 : (Jvm.Cond.code ({ cls := "ScoreHandlesModel", name := "widen", desc := "(JII)J" } : Jvm.MethodName) prog_13_method_18_code (4 : Nat) (Option.some Jvm.ClassFile.FieldType.long)) ∈ lw_all := lw_in 952 (by decide +kernel) rfl
theorem qw953 : (Jvm.Cond.methodLink "ScoreHandlesModel" (138 : Nat) ({ cls := "java/lang/Float", name := "floatToIntBits", desc := "(F)I" } : Jvm.MethodName)) ∈ lw_all := lw_in 953 (by decide +kernel) rfl
theorem qw954 : (Jvm.Cond.static ({ cls := "java/lang/Float", name := "floatToIntBits", desc := "(F)I" } : Jvm.MethodName)) ∈ lw_all := lw_in 954 (by decide +kernel) rfl
theorem qw955 : (Jvm.Cond.code ({ cls := "java/lang/Float", name := "floatToIntBits", desc := "(F)I" } : Jvm.MethodName) prog_16_method_24_code (1 : Nat) (Option.some Jvm.ClassFile.FieldType.int)) ∈ lw_all := lw_in 955 (by decide +kernel) rfl
theorem qw956 : (Jvm.Cond.methodLink "java/lang/Float" (59 : Nat) ({ cls := "java/lang/Float", name := "isNaN", desc := "(F)Z" } : Jvm.MethodName)) ∈ lw_all := lw_in 956 (by decide +kernel) rfl
theorem qw957 : (Jvm.Cond.static ({ cls := "java/lang/Float", name := "isNaN", desc := "(F)Z" } : Jvm.MethodName)) ∈ lw_all := lw_in 957 (by decide +kernel) rfl
theorem qw958 : (Jvm.Cond.code ({ cls := "java/lang/Float", name := "isNaN", desc := "(F)Z" } : Jvm.MethodName) prog_16_method_6_code (1 : Nat) (Option.some Jvm.ClassFile.FieldType.boolean)) ∈ lw_all := lw_in 958 (by decide +kernel) rfl
theorem qw959 : (Jvm.Cond.methodLink "java/lang/Float" (74 : Nat) ({ cls := "java/lang/Float", name := "floatToRawIntBits", desc := "(F)I" } : Jvm.MethodName)) ∈ lw_all := lw_in 959 (by decide +kernel) rfl
theorem qw960 : (Jvm.Cond.static ({ cls := "java/lang/Float", name := "floatToRawIntBits", desc := "(F)I" } : Jvm.MethodName)) ∈ lw_all := lw_in 960 (by decide +kernel) rfl
theorem qw961 : (Jvm.Cond.native ({ cls := "java/lang/Float", name := "floatToRawIntBits", desc := "(F)I" } : Jvm.MethodName)) ∈ lw_all := lw_in 961 (by decide +kernel) rfl
theorem qw962 : (Jvm.Cond.constant "java/lang/Float" (77 : Nat) (2143289344 : Int32)) ∈ lw_all := lw_in 962 (by decide +kernel) rfl
theorem qw963 : (Jvm.Cond.methodLink "ScoreHandlesModel" (131 : Nat) ({ cls := "ScoreHandlesModel", name := "sizeBits", desc := "(JI)J" } : Jvm.MethodName)) ∈ lw_all := lw_in 963 (by decide +kernel) rfl
theorem qw964 : (Jvm.Cond.static ({ cls := "ScoreHandlesModel", name := "sizeBits", desc := "(JI)J" } : Jvm.MethodName)) ∈ lw_all := lw_in 964 (by decide +kernel) rfl
theorem qw965 : (Jvm.Cond.code ({ cls := "ScoreHandlesModel", name := "sizeBits", desc := "(JI)J" } : Jvm.MethodName) prog_13_method_14_code (3 : Nat) (Option.some Jvm.ClassFile.FieldType.long)) ∈ lw_all := lw_in 965 (by decide +kernel) rfl
theorem qw966 : (Jvm.Cond.methodLink "ScoreHandlesModel" (134 : Nat) ({ cls := "ScoreHandlesModel", name := "most", desc := "(I)J" } : Jvm.MethodName)) ∈ lw_all := lw_in 966 (by decide +kernel) rfl
theorem qw967 : (Jvm.Cond.static ({ cls := "ScoreHandlesModel", name := "most", desc := "(I)J" } : Jvm.MethodName)) ∈ lw_all := lw_in 967 (by decide +kernel) rfl
theorem qw968 : (Jvm.Cond.code ({ cls := "ScoreHandlesModel", name := "most", desc := "(I)J" } : Jvm.MethodName) prog_13_method_15_code (1 : Nat) (Option.some Jvm.ClassFile.FieldType.long)) ∈ lw_all := lw_in 968 (by decide +kernel) rfl
theorem qw969 : (Jvm.Cond.methodLink "ScoreHandlesModel" (142 : Nat) ({ cls := "ScoreHandlesModel", name := "none", desc := "(I)J" } : Jvm.MethodName)) ∈ lw_all := lw_in 969 (by decide +kernel) rfl
theorem qw970 : (Jvm.Cond.static ({ cls := "ScoreHandlesModel", name := "none", desc := "(I)J" } : Jvm.MethodName)) ∈ lw_all := lw_in 970 (by decide +kernel) rfl
theorem qw971 : (Jvm.Cond.code ({ cls := "ScoreHandlesModel", name := "none", desc := "(I)J" } : Jvm.MethodName) prog_13_method_16_code (1 : Nat) (Option.some Jvm.ClassFile.FieldType.long)) ∈ lw_all := lw_in 971 (by decide +kernel) rfl
theorem qw972 : (Jvm.Cond.methodLink "ScoreHandlesModel" (145 : Nat) ({ cls := "ScoreHandlesModel", name := "floatOf", desc := "(J)F" } : Jvm.MethodName)) ∈ lw_all := lw_in 972 (by decide +kernel) rfl
theorem qw973 : (Jvm.Cond.static ({ cls := "ScoreHandlesModel", name := "floatOf", desc := "(J)F" } : Jvm.MethodName)) ∈ lw_all := lw_in 973 (by decide +kernel) rfl
theorem qw974 : (Jvm.Cond.code ({ cls := "ScoreHandlesModel", name := "floatOf", desc := "(J)F" } : Jvm.MethodName) prog_13_method_12_code (2 : Nat) (Option.some Jvm.ClassFile.FieldType.float)) ∈ lw_all := lw_in 974 (by decide +kernel) rfl
theorem qw975 : (Jvm.Cond.methodLink "ScoreHandlesModel" (119 : Nat) ({ cls := "java/lang/Float", name := "intBitsToFloat", desc := "(I)F" } : Jvm.MethodName)) ∈ lw_all := lw_in 975 (by decide +kernel) rfl
theorem qw976 : (Jvm.Cond.static ({ cls := "java/lang/Float", name := "intBitsToFloat", desc := "(I)F" } : Jvm.MethodName)) ∈ lw_all := lw_in 976 (by decide +kernel) rfl
theorem qw977 : (Jvm.Cond.native ({ cls := "java/lang/Float", name := "intBitsToFloat", desc := "(I)F" } : Jvm.MethodName)) ∈ lw_all := lw_in 977 (by decide +kernel) rfl
theorem qw978 : (Jvm.Cond.methodLink "ScoreHandlesModel" (149 : Nat) ({ cls := "java/lang/Double", name := "doubleToLongBits", desc := "(D)J" } : Jvm.MethodName)) ∈ lw_all := lw_in 978 (by decide +kernel) rfl
theorem qw979 : (Jvm.Cond.static ({ cls := "java/lang/Double", name := "doubleToLongBits", desc := "(D)J" } : Jvm.MethodName)) ∈ lw_all := lw_in 979 (by decide +kernel) rfl
theorem qw980 : (Jvm.Cond.code ({ cls := "java/lang/Double", name := "doubleToLongBits", desc := "(D)J" } : Jvm.MethodName) prog_14_method_23_code (2 : Nat) (Option.some Jvm.ClassFile.FieldType.long)) ∈ lw_all := lw_in 980 (by decide +kernel) rfl
theorem qw981 : (Jvm.Cond.methodLink "java/lang/Double" (122 : Nat) ({ cls := "java/lang/Double", name := "isNaN", desc := "(D)Z" } : Jvm.MethodName)) ∈ lw_all := lw_in 981 (by decide +kernel) rfl
theorem qw982 : (Jvm.Cond.static ({ cls := "java/lang/Double", name := "isNaN", desc := "(D)Z" } : Jvm.MethodName)) ∈ lw_all := lw_in 982 (by decide +kernel) rfl
theorem qw983 : (Jvm.Cond.code ({ cls := "java/lang/Double", name := "isNaN", desc := "(D)Z" } : Jvm.MethodName) prog_14_method_6_code (2 : Nat) (Option.some Jvm.ClassFile.FieldType.boolean)) ∈ lw_all := lw_in 983 (by decide +kernel) rfl
theorem qw984 : (Jvm.Cond.methodLink "java/lang/Double" (134 : Nat) ({ cls := "java/lang/Double", name := "doubleToRawLongBits", desc := "(D)J" } : Jvm.MethodName)) ∈ lw_all := lw_in 984 (by decide +kernel) rfl
theorem qw985 : (Jvm.Cond.static ({ cls := "java/lang/Double", name := "doubleToRawLongBits", desc := "(D)J" } : Jvm.MethodName)) ∈ lw_all := lw_in 985 (by decide +kernel) rfl
theorem qw986 : (Jvm.Cond.native ({ cls := "java/lang/Double", name := "doubleToRawLongBits", desc := "(D)J" } : Jvm.MethodName)) ∈ lw_all := lw_in 986 (by decide +kernel) rfl
theorem qw987 : (Jvm.Cond.constantLong "java/lang/Double" (137 : Nat) (9221120237041090560 : Int64)) ∈ lw_all := lw_in 987 (by decide +kernel) rfl
theorem qw988 : (Jvm.Cond.methodLink "ScoreHandlesModel" (300 : Nat) ({ cls := "ScoreHandlesModel", name := "begin", desc := "(I)V" } : Jvm.MethodName)) ∈ lw_all := lw_in 988 (by decide +kernel) rfl
theorem qw990 : (Jvm.Cond.instanceMethod ({ cls := "ScoreHandlesModel", name := "begin", desc := "(I)V" } : Jvm.MethodName)) ∈ lw_all := lw_in 990 (by decide +kernel) rfl
theorem qw991 : (Jvm.Cond.code ({ cls := "ScoreHandlesModel", name := "begin", desc := "(I)V" } : Jvm.MethodName) prog_13_method_43_code (3 : Nat) (Option.none : Option Jvm.ClassFile.FieldType)) ∈ lw_all := lw_in 991 (by decide +kernel) rfl
theorem qw992 : (Jvm.Cond.methodLink "ScoreHandlesModel" (330 : Nat) ({ cls := "ScoreHandlesModel", name := "one", desc := "()V" } : Jvm.MethodName)) ∈ lw_all := lw_in 992 (by decide +kernel) rfl
theorem qw994 : (Jvm.Cond.instanceMethod ({ cls := "ScoreHandlesModel", name := "one", desc := "()V" } : Jvm.MethodName)) ∈ lw_all := lw_in 994 (by decide +kernel) rfl
theorem qw995 : (Jvm.Cond.code ({ cls := "ScoreHandlesModel", name := "one", desc := "()V" } : Jvm.MethodName) prog_13_method_57_code (4 : Nat) (Option.none : Option Jvm.ClassFile.FieldType)) ∈ lw_all := lw_in 995 (by decide +kernel) rfl
theorem qw996 : (Jvm.Cond.methodLink "ScoreHandlesModel" (309 : Nat) ({ cls := "ScoreHandlesModel", name := "acts", desc := "(I)V" } : Jvm.MethodName)) ∈ lw_all := lw_in 996 (by decide +kernel) rfl
theorem qw998 : (Jvm.Cond.instanceMethod ({ cls := "ScoreHandlesModel", name := "acts", desc := "(I)V" } : Jvm.MethodName)) ∈ lw_all := lw_in 998 (by decide +kernel) rfl
theorem qw999 : (Jvm.Cond.code ({ cls := "ScoreHandlesModel", name := "acts", desc := "(I)V" } : Jvm.MethodName) prog_13_method_49_code (3 : Nat) (Option.none : Option Jvm.ClassFile.FieldType)) ∈ lw_all := lw_in 999 (by decide +kernel) rfl
theorem qw1000 : (Jvm.Cond.methodLink "ScoreHandlesModel" (275 : Nat) ({ cls := "ScoreHandlesModel", name := "end", desc := "(J)V" } : Jvm.MethodName)) ∈ lw_all := lw_in 1000 (by decide +kernel) rfl
theorem qw1002 : (Jvm.Cond.instanceMethod ({ cls := "ScoreHandlesModel", name := "end", desc := "(J)V" } : Jvm.MethodName)) ∈ lw_all := lw_in 1002 (by decide +kernel) rfl
theorem qw1003 : (Jvm.Cond.code ({ cls := "ScoreHandlesModel", name := "end", desc := "(J)V" } : Jvm.MethodName) prog_13_method_44_code (3 : Nat) (Option.none : Option Jvm.ClassFile.FieldType)) ∈ lw_all := lw_in 1003 (by decide +kernel) rfl
theorem qw1004 : (Jvm.Cond.methodLink "ScoreHandlesModel" (286 : Nat) ({ cls := "ScoreHandlesModel", name := "reads", desc := "(IZ)V" } : Jvm.MethodName)) ∈ lw_all := lw_in 1004 (by decide +kernel) rfl
theorem qw1006 : (Jvm.Cond.instanceMethod ({ cls := "ScoreHandlesModel", name := "reads", desc := "(IZ)V" } : Jvm.MethodName)) ∈ lw_all := lw_in 1006 (by decide +kernel) rfl
theorem qw1007 : (Jvm.Cond.code ({ cls := "ScoreHandlesModel", name := "reads", desc := "(IZ)V" } : Jvm.MethodName) prog_13_method_47_code (9 : Nat) (Option.none : Option Jvm.ClassFile.FieldType)) ∈ lw_all := lw_in 1007 (by decide +kernel) rfl
theorem qw1008 : (Jvm.Cond.methodLink "ScoreHandlesModel" (272 : Nat) ({ cls := "ScoreHandlesModel", name := "fail", desc := "(I)V" } : Jvm.MethodName)) ∈ lw_all := lw_in 1008 (by decide +kernel) rfl
theorem qw1010 : (Jvm.Cond.instanceMethod ({ cls := "ScoreHandlesModel", name := "fail", desc := "(I)V" } : Jvm.MethodName)) ∈ lw_all := lw_in 1010 (by decide +kernel) rfl
theorem qw1011 : (Jvm.Cond.code ({ cls := "ScoreHandlesModel", name := "fail", desc := "(I)V" } : Jvm.MethodName) prog_13_method_45_code (2 : Nat) (Option.none : Option Jvm.ClassFile.FieldType)) ∈ lw_all := lw_in 1011 (by decide +kernel) rfl
theorem qw1012 : (Jvm.Cond.methodLink "ScoreHandlesModel" (290 : Nat) ({ cls := "ScoreHandlesModel", name := "reckons", desc := "(I)V" } : Jvm.MethodName)) ∈ lw_all := lw_in 1012 (by decide +kernel) rfl
theorem qw1014 : (Jvm.Cond.instanceMethod ({ cls := "ScoreHandlesModel", name := "reckons", desc := "(I)V" } : Jvm.MethodName)) ∈ lw_all := lw_in 1014 (by decide +kernel) rfl
theorem qw1015 : (Jvm.Cond.code ({ cls := "ScoreHandlesModel", name := "reckons", desc := "(I)V" } : Jvm.MethodName) prog_13_method_48_code (9 : Nat) (Option.none : Option Jvm.ClassFile.FieldType)) ∈ lw_all := lw_in 1015 (by decide +kernel) rfl
theorem qw1016 : (Jvm.Cond.methodLink "ScoreHandlesModel" (279 : Nat) ({ cls := "ScoreHandlesModel", name := "givesNone", desc := "(JJIZ)Z" } : Jvm.MethodName)) ∈ lw_all := lw_in 1016 (by decide +kernel) rfl
theorem qw1017 : (Jvm.Cond.static ({ cls := "ScoreHandlesModel", name := "givesNone", desc := "(JJIZ)Z" } : Jvm.MethodName)) ∈ lw_all := lw_in 1017 (by decide +kernel) rfl
theorem qw1018 : (Jvm.Cond.code ({ cls := "ScoreHandlesModel", name := "givesNone", desc := "(JJIZ)Z" } : Jvm.MethodName) prog_13_method_17_code (11 : Nat) (Option.some Jvm.ClassFile.FieldType.boolean)) ∈ lw_all := lw_in 1018 (by decide +kernel) rfl
theorem qw1019 : (Jvm.Cond.methodLink "ScoreHandlesModel" (283 : Nat) ({ cls := "ScoreHandlesModel", name := "doubleOf", desc := "(J)D" } : Jvm.MethodName)) ∈ lw_all := lw_in 1019 (by decide +kernel) rfl
theorem qw1020 : (Jvm.Cond.static ({ cls := "ScoreHandlesModel", name := "doubleOf", desc := "(J)D" } : Jvm.MethodName)) ∈ lw_all := lw_in 1020 (by decide +kernel) rfl
theorem qw1021 : (Jvm.Cond.code ({ cls := "ScoreHandlesModel", name := "doubleOf", desc := "(J)D" } : Jvm.MethodName) prog_13_method_13_code (2 : Nat) (Option.some Jvm.ClassFile.FieldType.double)) ∈ lw_all := lw_in 1021 (by decide +kernel) rfl
theorem qw1022 : (Jvm.Cond.methodLink "ScoreHandlesModel" (125 : Nat) ({ cls := "java/lang/Double", name := "longBitsToDouble", desc := "(J)D" } : Jvm.MethodName)) ∈ lw_all := lw_in 1022 (by decide +kernel) rfl
theorem qw1023 : (Jvm.Cond.static ({ cls := "java/lang/Double", name := "longBitsToDouble", desc := "(J)D" } : Jvm.MethodName)) ∈ lw_all := lw_in 1023 (by decide +kernel) rfl
theorem qw1024 : (Jvm.Cond.native ({ cls := "java/lang/Double", name := "longBitsToDouble", desc := "(J)D" } : Jvm.MethodName)) ∈ lw_all := lw_in 1024 (by decide +kernel) rfl
theorem qw1025 : (Jvm.Cond.methodLink "ScoreHandlesModel" (312 : Nat) ({ cls := "ScoreHandlesModel", name := "catches", desc := "(I)V" } : Jvm.MethodName)) ∈ lw_all := lw_in 1025 (by decide +kernel) rfl
theorem qw1027 : (Jvm.Cond.instanceMethod ({ cls := "ScoreHandlesModel", name := "catches", desc := "(I)V" } : Jvm.MethodName)) ∈ lw_all := lw_in 1027 (by decide +kernel) rfl
theorem qw1028 : (Jvm.Cond.code ({ cls := "ScoreHandlesModel", name := "catches", desc := "(I)V" } : Jvm.MethodName) prog_13_method_54_code (4 : Nat) (Option.none : Option Jvm.ClassFile.FieldType)) ∈ lw_all := lw_in 1028 (by decide +kernel) rfl
theorem qw1029 : (Jvm.Cond.methodLink "ScoreHandlesModel" (303 : Nat) ({ cls := "ScoreHandlesModel", name := "begins", desc := "(I)V" } : Jvm.MethodName)) ∈ lw_all := lw_in 1029 (by decide +kernel) rfl
theorem qw1031 : (Jvm.Cond.instanceMethod ({ cls := "ScoreHandlesModel", name := "begins", desc := "(I)V" } : Jvm.MethodName)) ∈ lw_all := lw_in 1031 (by decide +kernel) rfl
theorem qw1032 : (Jvm.Cond.code ({ cls := "ScoreHandlesModel", name := "begins", desc := "(I)V" } : Jvm.MethodName) prog_13_method_53_code (2 : Nat) (Option.none : Option Jvm.ClassFile.FieldType)) ∈ lw_all := lw_in 1032 (by decide +kernel) rfl
theorem qw1033 : (Jvm.Cond.methodLink "ScoreHandlesModel" (293 : Nat) ({ cls := "ScoreHandlesModel", name := "pass", desc := "(II)V" } : Jvm.MethodName)) ∈ lw_all := lw_in 1033 (by decide +kernel) rfl
theorem qw1035 : (Jvm.Cond.instanceMethod ({ cls := "ScoreHandlesModel", name := "pass", desc := "(II)V" } : Jvm.MethodName)) ∈ lw_all := lw_in 1035 (by decide +kernel) rfl
theorem qw1036 : (Jvm.Cond.code ({ cls := "ScoreHandlesModel", name := "pass", desc := "(II)V" } : Jvm.MethodName) prog_13_method_46_code (6 : Nat) (Option.none : Option Jvm.ClassFile.FieldType)) ∈ lw_all := lw_in 1036 (by decide +kernel) rfl
theorem qw1037 : (Jvm.Cond.methodLink "ScoreHandlesModel" (306 : Nat) ({ cls := "ScoreHandlesModel", name := "giveOn", desc := "()V" } : Jvm.MethodName)) ∈ lw_all := lw_in 1037 (by decide +kernel) rfl
theorem qw1039 : (Jvm.Cond.instanceMethod ({ cls := "ScoreHandlesModel", name := "giveOn", desc := "()V" } : Jvm.MethodName)) ∈ lw_all := lw_in 1039 (by decide +kernel) rfl
theorem qw1040 : (Jvm.Cond.code ({ cls := "ScoreHandlesModel", name := "giveOn", desc := "()V" } : Jvm.MethodName) prog_13_method_50_code (1 : Nat) (Option.none : Option Jvm.ClassFile.FieldType)) ∈ lw_all := lw_in 1040 (by decide +kernel) rfl
theorem qw1041 : (Jvm.Cond.methodLink "ScoreHandlesModel" (315 : Nat) ({ cls := "ScoreHandlesModel", name := "lasts", desc := "(I)V" } : Jvm.MethodName)) ∈ lw_all := lw_in 1041 (by decide +kernel) rfl
theorem qw1043 : (Jvm.Cond.instanceMethod ({ cls := "ScoreHandlesModel", name := "lasts", desc := "(I)V" } : Jvm.MethodName)) ∈ lw_all := lw_in 1043 (by decide +kernel) rfl
theorem qw1044 : (Jvm.Cond.code ({ cls := "ScoreHandlesModel", name := "lasts", desc := "(I)V" } : Jvm.MethodName) prog_13_method_55_code (3 : Nat) (Option.none : Option Jvm.ClassFile.FieldType)) ∈ lw_all := lw_in 1044 (by decide +kernel) rfl
theorem qw1045 : (Jvm.Cond.methodLink "ScoreHandlesModel" (318 : Nat) ({ cls := "ScoreHandlesModel", name := "loops", desc := "(I)V" } : Jvm.MethodName)) ∈ lw_all := lw_in 1045 (by decide +kernel) rfl
theorem qw1047 : (Jvm.Cond.instanceMethod ({ cls := "ScoreHandlesModel", name := "loops", desc := "(I)V" } : Jvm.MethodName)) ∈ lw_all := lw_in 1047 (by decide +kernel) rfl
theorem qw1048 : (Jvm.Cond.code ({ cls := "ScoreHandlesModel", name := "loops", desc := "(I)V" } : Jvm.MethodName) prog_13_method_56_code (3 : Nat) (Option.none : Option Jvm.ClassFile.FieldType)) ∈ lw_all := lw_in 1048 (by decide +kernel) rfl
theorem qw1049 : (Jvm.Cond.methodLink "ScoreHandlesModel" (321 : Nat) ({ cls := "ScoreHandlesModel", name := "handsOn", desc := "(I)V" } : Jvm.MethodName)) ∈ lw_all := lw_in 1049 (by decide +kernel) rfl
theorem qw1051 : (Jvm.Cond.instanceMethod ({ cls := "ScoreHandlesModel", name := "handsOn", desc := "(I)V" } : Jvm.MethodName)) ∈ lw_all := lw_in 1051 (by decide +kernel) rfl
theorem qw1052 : (Jvm.Cond.code ({ cls := "ScoreHandlesModel", name := "handsOn", desc := "(I)V" } : Jvm.MethodName) prog_13_method_51_code (5 : Nat) (Option.none : Option Jvm.ClassFile.FieldType)) ∈ lw_all := lw_in 1052 (by decide +kernel) rfl
theorem qw1053 : (Jvm.Cond.methodLink "ScoreHandlesModel" (324 : Nat) ({ cls := "ScoreHandlesModel", name := "goesOn", desc := "(I)V" } : Jvm.MethodName)) ∈ lw_all := lw_in 1053 (by decide +kernel) rfl
theorem qw1055 : (Jvm.Cond.instanceMethod ({ cls := "ScoreHandlesModel", name := "goesOn", desc := "(I)V" } : Jvm.MethodName)) ∈ lw_all := lw_in 1055 (by decide +kernel) rfl
theorem qw1056 : (Jvm.Cond.code ({ cls := "ScoreHandlesModel", name := "goesOn", desc := "(I)V" } : Jvm.MethodName) prog_13_method_52_code (2 : Nat) (Option.none : Option Jvm.ClassFile.FieldType)) ∈ lw_all := lw_in 1056 (by decide +kernel) rfl
theorem qw1057 : (Jvm.Cond.methodLink "ScoreHandlesLaw" (67 : Nat) ({ cls := "ScoreHandlesModel", name := "value", desc := "()J" } : Jvm.MethodName)) ∈ lw_all := lw_in 1057 (by decide +kernel) rfl
theorem qw1058 : (Jvm.Cond.instanceMethod ({ cls := "ScoreHandlesModel", name := "value", desc := "()J" } : Jvm.MethodName)) ∈ lw_all := lw_in 1058 (by decide +kernel) rfl
theorem qw1059 : (Jvm.Cond.selects "ScoreHandlesModel" ({ cls := "ScoreHandlesModel", name := "value", desc := "()J" } : Jvm.MethodName) ({ cls := "ScoreHandlesModel", name := "value", desc := "()J" } : Jvm.MethodName)) ∈ lw_all := lw_in 1059 (by decide +kernel) rfl
theorem qw1060 : (Jvm.Cond.code ({ cls := "ScoreHandlesModel", name := "value", desc := "()J" } : Jvm.MethodName) prog_13_method_59_code (1 : Nat) (Option.some Jvm.ClassFile.FieldType.long)) ∈ lw_all := lw_in 1060 (by decide +kernel) rfl
theorem qw1061 : (Jvm.Cond.methodLink "ScoreHandlesLaw" (71 : Nat) ({ cls := "ScoreHandlesModel", name := "last", desc := "(I)I" } : Jvm.MethodName)) ∈ lw_all := lw_in 1061 (by decide +kernel) rfl
theorem qw1062 : (Jvm.Cond.instanceMethod ({ cls := "ScoreHandlesModel", name := "last", desc := "(I)I" } : Jvm.MethodName)) ∈ lw_all := lw_in 1062 (by decide +kernel) rfl
theorem qw1063 : (Jvm.Cond.selects "ScoreHandlesModel" ({ cls := "ScoreHandlesModel", name := "last", desc := "(I)I" } : Jvm.MethodName) ({ cls := "ScoreHandlesModel", name := "last", desc := "(I)I" } : Jvm.MethodName)) ∈ lw_all := lw_in 1063 (by decide +kernel) rfl
theorem qw1064 : (Jvm.Cond.code ({ cls := "ScoreHandlesModel", name := "last", desc := "(I)I" } : Jvm.MethodName) prog_13_method_60_code (2 : Nat) (Option.some Jvm.ClassFile.FieldType.int)) ∈ lw_all := lw_in 1064 (by decide +kernel) rfl
theorem qw1065 : (Jvm.Cond.methodLink "ScoreHandlesLaw" (75 : Nat) ({ cls := "ScoreHandlesModel", name := "count", desc := "(I)I" } : Jvm.MethodName)) ∈ lw_all := lw_in 1065 (by decide +kernel) rfl
theorem qw1066 : (Jvm.Cond.instanceMethod ({ cls := "ScoreHandlesModel", name := "count", desc := "(I)I" } : Jvm.MethodName)) ∈ lw_all := lw_in 1066 (by decide +kernel) rfl
theorem qw1067 : (Jvm.Cond.selects "ScoreHandlesModel" ({ cls := "ScoreHandlesModel", name := "count", desc := "(I)I" } : Jvm.MethodName) ({ cls := "ScoreHandlesModel", name := "count", desc := "(I)I" } : Jvm.MethodName)) ∈ lw_all := lw_in 1067 (by decide +kernel) rfl
theorem qw1068 : (Jvm.Cond.code ({ cls := "ScoreHandlesModel", name := "count", desc := "(I)I" } : Jvm.MethodName) prog_13_method_61_code (2 : Nat) (Option.some Jvm.ClassFile.FieldType.int)) ∈ lw_all := lw_in 1068 (by decide +kernel) rfl
theorem qw1069 : (Jvm.Cond.constantLong "ScoreHandlesLaw" (18 : Nat) (4294967295 : Int64)) ∈ lw_all := lw_in 1069 (by decide +kernel) rfl
theorem qw1070 : (Jvm.Cond.fieldLink "ScoreHandles$Real" (41 : Nat) "ScoreHandles$Real" "signs" "J") ∈ lw_all := lw_in 1070 (by decide +kernel) rfl
theorem qw1071 : (Jvm.Cond.fieldLink "ScoreHandles$Real" (36 : Nat) "ScoreHandles$Real" "beyond" "I") ∈ lw_all := lw_in 1071 (by decide +kernel) rfl
theorem qw1072 : (Jvm.Cond.fieldLink "ScoreHandles$Real" (29 : Nat) "ScoreHandles$Real" "fraction" "I") ∈ lw_all := lw_in 1072 (by decide +kernel) rfl
theorem qw1073 : (Jvm.Cond.fieldLink "ScoreHandles$Real" (33 : Nat) "ScoreHandles$Real" "bias" "I") ∈ lw_all := lw_in 1073 (by decide +kernel) rfl
theorem qs0 : Cond.selects "ScoreHandles$Rows" ⟨"ScoreHandles$Rows", "added", "(II)I"⟩ ⟨"ScoreHandles$Rows", "added", "(II)I"⟩ ∈ lw_all := lw_inS (q := (⟨"ScoreHandles$Rows", "added", "(II)I"⟩, 2)) 0 (by decide +kernel) rfl
theorem qs1 : Cond.selects "ScoreHandles$Rows" ⟨"ScoreHandles$Rows", "at", "(J)LScoreHandles$Row;"⟩ ⟨"ScoreHandles$Rows", "at", "(J)LScoreHandles$Row;"⟩ ∈ lw_all := lw_inS (q := (⟨"ScoreHandles$Rows", "at", "(J)LScoreHandles$Row;"⟩, 2)) 1 (by decide +kernel) rfl
theorem qs2 : Cond.selects "ScoreHandles$Row" ⟨"ScoreHandles$Row", "has", "(J)Z"⟩ ⟨"ScoreHandles$Row", "has", "(J)Z"⟩ ∈ lw_all := lw_inS (q := (⟨"ScoreHandles$Row", "has", "(J)Z"⟩, 2)) 2 (by decide +kernel) rfl
theorem qs3 : Cond.selects "ScoreHandles$Real" ⟨"ScoreHandles$Real", "plain", "(J)J"⟩ ⟨"ScoreHandles$Real", "plain", "(J)J"⟩ ∈ lw_all := lw_inS (q := (⟨"ScoreHandles$Real", "plain", "(J)J"⟩, 7)) 3 (by decide +kernel) rfl
theorem qs4 : Cond.selects "ScoreHandles$Real" ⟨"ScoreHandles$Real", "isNoNumber", "(J)Z"⟩ ⟨"ScoreHandles$Real", "isNoNumber", "(J)Z"⟩ ∈ lw_all := lw_inS (q := (⟨"ScoreHandles$Real", "isNoNumber", "(J)Z"⟩, 7)) 4 (by decide +kernel) rfl
theorem qs5 : Cond.selects "ScoreHandles$Real" ⟨"ScoreHandles$Real", "magnitude", "(J)J"⟩ ⟨"ScoreHandles$Real", "magnitude", "(J)J"⟩ ∈ lw_all := lw_inS (q := (⟨"ScoreHandles$Real", "magnitude", "(J)J"⟩, 7)) 5 (by decide +kernel) rfl
theorem qs6 : Cond.selects "ScoreHandles$Real" ⟨"ScoreHandles$Real", "infinity", "()J"⟩ ⟨"ScoreHandles$Real", "infinity", "()J"⟩ ∈ lw_all := lw_inS (q := (⟨"ScoreHandles$Real", "infinity", "()J"⟩, 7)) 6 (by decide +kernel) rfl
theorem qs7 : Cond.selects "ScoreHandles$Real" ⟨"ScoreHandles$Real", "noNumber", "()J"⟩ ⟨"ScoreHandles$Real", "noNumber", "()J"⟩ ∈ lw_all := lw_inS (q := (⟨"ScoreHandles$Real", "noNumber", "()J"⟩, 7)) 7 (by decide +kernel) rfl
theorem qs8 : Cond.selects "ScoreHandles$Row" ⟨"ScoreHandles$Row", "set", "(JJ)V"⟩ ⟨"ScoreHandles$Row", "set", "(JJ)V"⟩ ∈ lw_all := lw_inS (q := (⟨"ScoreHandles$Row", "set", "(JJ)V"⟩, 2)) 8 (by decide +kernel) rfl
theorem qs9 : Cond.selects "ScoreHandles$Row" ⟨"ScoreHandles$Row", "get", "(J)J"⟩ ⟨"ScoreHandles$Row", "get", "(J)J"⟩ ∈ lw_all := lw_inS (q := (⟨"ScoreHandles$Row", "get", "(J)J"⟩, 2)) 9 (by decide +kernel) rfl
theorem qs10 : Cond.selects "ScoreHandles$Row" ⟨"ScoreHandles$Row", "many", "()I"⟩ ⟨"ScoreHandles$Row", "many", "()I"⟩ ∈ lw_all := lw_inS (q := (⟨"ScoreHandles$Row", "many", "()I"⟩, 2)) 10 (by decide +kernel) rfl
theorem qs11 : Cond.selects "ScoreHandles$Maker" ⟨"ScoreHandles$Maker", "isTold", "(LScoreHandles$Handle;)Z"⟩ ⟨"ScoreHandles$Maker", "isTold", "(LScoreHandles$Handle;)Z"⟩ ∈ lw_all := lw_inS (q := (⟨"ScoreHandles$Maker", "isTold", "(LScoreHandles$Handle;)Z"⟩, 2)) 11 (by decide +kernel) rfl
theorem qs12 : Cond.selects "ScoreHandles$Maker" ⟨"ScoreHandles$Maker", "isFirstTold", "(LScoreHandles$Handle;)Z"⟩ ⟨"ScoreHandles$Maker", "isFirstTold", "(LScoreHandles$Handle;)Z"⟩ ∈ lw_all := lw_inS (q := (⟨"ScoreHandles$Maker", "isFirstTold", "(LScoreHandles$Handle;)Z"⟩, 2)) 12 (by decide +kernel) rfl
theorem qs13 : Cond.selects "ScoreHandles$Handles" ⟨"ScoreHandles$Handles", "at", "(I)LScoreHandles$Handle;"⟩ ⟨"ScoreHandles$Handles", "at", "(I)LScoreHandles$Handle;"⟩ ∈ lw_all := lw_inS (q := (⟨"ScoreHandles$Handles", "at", "(I)LScoreHandles$Handle;"⟩, 2)) 13 (by decide +kernel) rfl
theorem qs14 : Cond.selects "ScoreHandles$Maker" ⟨"ScoreHandles$Maker", "isSecondTold", "(LScoreHandles$Handle;)Z"⟩ ⟨"ScoreHandles$Maker", "isSecondTold", "(LScoreHandles$Handle;)Z"⟩ ∈ lw_all := lw_inS (q := (⟨"ScoreHandles$Maker", "isSecondTold", "(LScoreHandles$Handle;)Z"⟩, 2)) 14 (by decide +kernel) rfl
theorem qs15 : Cond.selects "ScoreHandles$Maker" ⟨"ScoreHandles$Maker", "parametersOf", "(I)I"⟩ ⟨"ScoreHandles$Maker", "parametersOf", "(I)I"⟩ ∈ lw_all := lw_inS (q := (⟨"ScoreHandles$Maker", "parametersOf", "(I)I"⟩, 2)) 15 (by decide +kernel) rfl
theorem qs16 : Cond.selects "ScoreHandles$Handles" ⟨"ScoreHandles$Handles", "typeAt", "(I)LScoreHandles$Type;"⟩ ⟨"ScoreHandles$Handles", "typeAt", "(I)LScoreHandles$Type;"⟩ ∈ lw_all := lw_inS (q := (⟨"ScoreHandles$Handles", "typeAt", "(I)LScoreHandles$Type;"⟩, 2)) 16 (by decide +kernel) rfl
theorem qs17 : Cond.selects "ScoreHandles$Maker" ⟨"ScoreHandles$Maker", "isThirdTold", "(LScoreHandles$Handle;)Z"⟩ ⟨"ScoreHandles$Maker", "isThirdTold", "(LScoreHandles$Handle;)Z"⟩ ∈ lw_all := lw_inS (q := (⟨"ScoreHandles$Maker", "isThirdTold", "(LScoreHandles$Handle;)Z"⟩, 2)) 17 (by decide +kernel) rfl
theorem qs18 : Cond.selects "ScoreHandles$Maker" ⟨"ScoreHandles$Maker", "kindOfBits", "(LScoreHandles$Handle;)I"⟩ ⟨"ScoreHandles$Maker", "kindOfBits", "(LScoreHandles$Handle;)I"⟩ ∈ lw_all := lw_inS (q := (⟨"ScoreHandles$Maker", "kindOfBits", "(LScoreHandles$Handle;)I"⟩, 2)) 18 (by decide +kernel) rfl
theorem qs19 : Cond.selects "ScoreHandles$Type" ⟨"ScoreHandles$Type", "kind", "(I)I"⟩ ⟨"ScoreHandles$Type", "kind", "(I)I"⟩ ∈ lw_all := lw_inS (q := (⟨"ScoreHandles$Type", "kind", "(I)I"⟩, 3)) 19 (by decide +kernel) rfl
theorem qs20 : Cond.selects "ScoreHandles$Rows" ⟨"ScoreHandles$Rows", "mayBe", "(IJ)Z"⟩ ⟨"ScoreHandles$Rows", "mayBe", "(IJ)Z"⟩ ∈ lw_all := lw_inS (q := (⟨"ScoreHandles$Rows", "mayBe", "(IJ)Z"⟩, 2)) 20 (by decide +kernel) rfl
theorem qs21 : Cond.selects "ScoreHandles$Maker" ⟨"ScoreHandles$Maker", "typeOf", "(LScoreHandles$Handle;LScoreHandles$Type;)LScoreHandles$Type;"⟩ ⟨"ScoreHandles$Maker", "typeOf", "(LScoreHandles$Handle;LScoreHandles$Type;)LScoreHandles$Type;"⟩ ∈ lw_all := lw_inS (q := (⟨"ScoreHandles$Maker", "typeOf", "(LScoreHandles$Handle;LScoreHandles$Type;)LScoreHandles$Type;"⟩, 2)) 21 (by decide +kernel) rfl
theorem qs22 : Cond.selects "ScoreHandles$Type" ⟨"ScoreHandles$Type", "longer", "(II)LScoreHandles$Type;"⟩ ⟨"ScoreHandles$Type", "longer", "(II)LScoreHandles$Type;"⟩ ∈ lw_all := lw_inS (q := (⟨"ScoreHandles$Type", "longer", "(II)LScoreHandles$Type;"⟩, 3)) 22 (by decide +kernel) rfl
theorem qs23 : Cond.selects "ScoreHandles$Type" ⟨"ScoreHandles$Type", "swapped", "(I)LScoreHandles$Type;"⟩ ⟨"ScoreHandles$Type", "swapped", "(I)LScoreHandles$Type;"⟩ ∈ lw_all := lw_inS (q := (⟨"ScoreHandles$Type", "swapped", "(I)LScoreHandles$Type;"⟩, 3)) 23 (by decide +kernel) rfl
theorem qs24 : Cond.selects "ScoreHandles$Type" ⟨"ScoreHandles$Type", "changed", "(II)LScoreHandles$Type;"⟩ ⟨"ScoreHandles$Type", "changed", "(II)LScoreHandles$Type;"⟩ ∈ lw_all := lw_inS (q := (⟨"ScoreHandles$Type", "changed", "(II)LScoreHandles$Type;"⟩, 3)) 24 (by decide +kernel) rfl
theorem qs25 : Cond.selects "ScoreHandles$Type" ⟨"ScoreHandles$Type", "withoutFirst", "()LScoreHandles$Type;"⟩ ⟨"ScoreHandles$Type", "withoutFirst", "()LScoreHandles$Type;"⟩ ∈ lw_all := lw_inS (q := (⟨"ScoreHandles$Type", "withoutFirst", "()LScoreHandles$Type;"⟩, 3)) 25 (by decide +kernel) rfl
theorem qs26 : Cond.selects "ScoreHandles$Type" ⟨"ScoreHandles$Type", "goesTo", "(LScoreHandles$Type;)Z"⟩ ⟨"ScoreHandles$Type", "goesTo", "(LScoreHandles$Type;)Z"⟩ ∈ lw_all := lw_inS (q := (⟨"ScoreHandles$Type", "goesTo", "(LScoreHandles$Type;)Z"⟩, 3)) 26 (by decide +kernel) rfl
theorem qs27 : Cond.selects "ScoreHandles$Maker" ⟨"ScoreHandles$Maker", "typeOfSome", "(LScoreHandles$Handle;LScoreHandles$Type;)LScoreHandles$Type;"⟩ ⟨"ScoreHandles$Maker", "typeOfSome", "(LScoreHandles$Handle;LScoreHandles$Type;)LScoreHandles$Type;"⟩ ∈ lw_all := lw_inS (q := (⟨"ScoreHandles$Maker", "typeOfSome", "(LScoreHandles$Handle;LScoreHandles$Type;)LScoreHandles$Type;"⟩, 2)) 27 (by decide +kernel) rfl
theorem qs28 : Cond.selects "ScoreHandles$Type" ⟨"ScoreHandles$Type", "isFirstOf", "(LScoreHandles$Type;II)Z"⟩ ⟨"ScoreHandles$Type", "isFirstOf", "(LScoreHandles$Type;II)Z"⟩ ∈ lw_all := lw_inS (q := (⟨"ScoreHandles$Type", "isFirstOf", "(LScoreHandles$Type;II)Z"⟩, 3)) 28 (by decide +kernel) rfl
theorem qs29 : Cond.selects "ScoreHandles$Type" ⟨"ScoreHandles$Type", "giving", "(I)LScoreHandles$Type;"⟩ ⟨"ScoreHandles$Type", "giving", "(I)LScoreHandles$Type;"⟩ ∈ lw_all := lw_inS (q := (⟨"ScoreHandles$Type", "giving", "(I)LScoreHandles$Type;"⟩, 3)) 29 (by decide +kernel) rfl
theorem qs30 : Cond.selects "ScoreHandles$Type" ⟨"ScoreHandles$Type", "isSame", "(LScoreHandles$Type;)Z"⟩ ⟨"ScoreHandles$Type", "isSame", "(LScoreHandles$Type;)Z"⟩ ∈ lw_all := lw_inS (q := (⟨"ScoreHandles$Type", "isSame", "(LScoreHandles$Type;)Z"⟩, 3)) 30 (by decide +kernel) rfl
theorem qs31 : Cond.selects "ScoreHandles$Maker" ⟨"ScoreHandles$Maker", "bitsOf", "(LScoreHandles$Handle;)J"⟩ ⟨"ScoreHandles$Maker", "bitsOf", "(LScoreHandles$Handle;)J"⟩ ∈ lw_all := lw_inS (q := (⟨"ScoreHandles$Maker", "bitsOf", "(LScoreHandles$Handle;)J"⟩, 2)) 31 (by decide +kernel) rfl
theorem qs32 : Cond.selects "ScoreHandles$Handle" ⟨"ScoreHandles$Handle", "settle", "(LScoreHandles$Type;J)V"⟩ ⟨"ScoreHandles$Handle", "settle", "(LScoreHandles$Type;J)V"⟩ ∈ lw_all := lw_inS (q := (⟨"ScoreHandles$Handle", "settle", "(LScoreHandles$Type;J)V"⟩, 7)) 32 (by decide +kernel) rfl
theorem qs33 : Cond.selects "ScoreHandles$Handles" ⟨"ScoreHandles$Handles", "numberOf", "(LScoreHandles$Handle;)I"⟩ ⟨"ScoreHandles$Handles", "numberOf", "(LScoreHandles$Handle;)I"⟩ ∈ lw_all := lw_inS (q := (⟨"ScoreHandles$Handles", "numberOf", "(LScoreHandles$Handle;)I"⟩, 2)) 33 (by decide +kernel) rfl
theorem qs34 : Cond.selects "ScoreHandles$Handle" ⟨"ScoreHandles$Handle", "isMadeAs", "(LScoreHandles$Handle;)Z"⟩ ⟨"ScoreHandles$Handle", "isMadeAs", "(LScoreHandles$Handle;)Z"⟩ ∈ lw_all := lw_inS (q := (⟨"ScoreHandles$Handle", "isMadeAs", "(LScoreHandles$Handle;)Z"⟩, 7)) 34 (by decide +kernel) rfl
theorem qs35 : Cond.selects "ScoreHandles" ⟨"ScoreHandles", "givenRowsAreThere", "()Z"⟩ ⟨"ScoreHandles", "givenRowsAreThere", "()Z"⟩ ∈ lw_all := lw_inS (q := (⟨"ScoreHandles", "givenRowsAreThere", "()Z"⟩, 8)) 35 (by decide +kernel) rfl
theorem qs36 : Cond.selects "ScoreHandles$Runner" ⟨"ScoreHandles$Runner", "forget", "()V"⟩ ⟨"ScoreHandles$Runner", "forget", "()V"⟩ ∈ lw_all := lw_inS (q := (⟨"ScoreHandles$Runner", "forget", "()V"⟩, 7)) 36 (by decide +kernel) rfl
theorem qs37 : Cond.selects "ScoreHandles" ⟨"ScoreHandles", "handOverNumbers", "(LScoreHandles$Type;)V"⟩ ⟨"ScoreHandles", "handOverNumbers", "(LScoreHandles$Type;)V"⟩ ∈ lw_all := lw_inS (q := (⟨"ScoreHandles", "handOverNumbers", "(LScoreHandles$Type;)V"⟩, 8)) 37 (by decide +kernel) rfl
theorem qs38 : Cond.selects "ScoreHandles$Real" ⟨"ScoreHandles$Real", "fromWhole", "(J)J"⟩ ⟨"ScoreHandles$Real", "fromWhole", "(J)J"⟩ ∈ lw_all := lw_inS (q := (⟨"ScoreHandles$Real", "fromWhole", "(J)J"⟩, 7)) 38 (by decide +kernel) rfl
theorem qs39 : Cond.selects "ScoreHandles$Real" ⟨"ScoreHandles$Real", "rounded", "(ZJI)J"⟩ ⟨"ScoreHandles$Real", "rounded", "(ZJI)J"⟩ ∈ lw_all := lw_inS (q := (⟨"ScoreHandles$Real", "rounded", "(ZJI)J"⟩, 7)) 39 (by decide +kernel) rfl
theorem qs40 : Cond.selects "ScoreHandles$Real" ⟨"ScoreHandles$Real", "signed", "(ZJ)J"⟩ ⟨"ScoreHandles$Real", "signed", "(ZJ)J"⟩ ∈ lw_all := lw_inS (q := (⟨"ScoreHandles$Real", "signed", "(ZJ)J"⟩, 7)) 40 (by decide +kernel) rfl
theorem qs41 : Cond.selects "ScoreHandles$Real" ⟨"ScoreHandles$Real", "fromSingle", "(J)J"⟩ ⟨"ScoreHandles$Real", "fromSingle", "(J)J"⟩ ∈ lw_all := lw_inS (q := (⟨"ScoreHandles$Real", "fromSingle", "(J)J"⟩, 7)) 41 (by decide +kernel) rfl
theorem qs42 : Cond.selects "ScoreHandles$Real" ⟨"ScoreHandles$Real", "significand", "(J)J"⟩ ⟨"ScoreHandles$Real", "significand", "(J)J"⟩ ∈ lw_all := lw_inS (q := (⟨"ScoreHandles$Real", "significand", "(J)J"⟩, 7)) 42 (by decide +kernel) rfl
theorem qs43 : Cond.selects "ScoreHandles$Real" ⟨"ScoreHandles$Real", "power", "(J)I"⟩ ⟨"ScoreHandles$Real", "power", "(J)I"⟩ ∈ lw_all := lw_inS (q := (⟨"ScoreHandles$Real", "power", "(J)I"⟩, 7)) 43 (by decide +kernel) rfl
theorem qs44 : Cond.selects "ScoreHandles$Runner" ⟨"ScoreHandles$Runner", "hand", "(IIJ)V"⟩ ⟨"ScoreHandles$Runner", "hand", "(IIJ)V"⟩ ∈ lw_all := lw_inS (q := (⟨"ScoreHandles$Runner", "hand", "(IIJ)V"⟩, 7)) 44 (by decide +kernel) rfl
theorem qs45 : Cond.selects "ScoreHandles$Runner" ⟨"ScoreHandles$Runner", "perform", "(II)J"⟩ ⟨"ScoreHandles$Runner", "perform", "(II)J"⟩ ∈ lw_all := lw_inS (q := (⟨"ScoreHandles$Runner", "perform", "(II)J"⟩, 7)) 45 (by decide +kernel) rfl
theorem qs46 : Cond.selects "ScoreHandles$Runner" ⟨"ScoreHandles$Runner", "spent", "(I)J"⟩ ⟨"ScoreHandles$Runner", "spent", "(I)J"⟩ ∈ lw_all := lw_inS (q := (⟨"ScoreHandles$Runner", "spent", "(I)J"⟩, 7)) 46 (by decide +kernel) rfl
theorem qs47 : Cond.selects "ScoreHandles$Runner" ⟨"ScoreHandles$Runner", "taken", "(II)J"⟩ ⟨"ScoreHandles$Runner", "taken", "(II)J"⟩ ∈ lw_all := lw_inS (q := (⟨"ScoreHandles$Runner", "taken", "(II)J"⟩, 7)) 47 (by decide +kernel) rfl
theorem qs48 : Cond.selects "ScoreHandles$Real" ⟨"ScoreHandles$Real", "sumOf", "(JJ)J"⟩ ⟨"ScoreHandles$Real", "sumOf", "(JJ)J"⟩ ∈ lw_all := lw_inS (q := (⟨"ScoreHandles$Real", "sumOf", "(JJ)J"⟩, 7)) 48 (by decide +kernel) rfl
theorem qs49 : Cond.selects "ScoreHandles$Real" ⟨"ScoreHandles$Real", "sumBeyond", "(JJ)J"⟩ ⟨"ScoreHandles$Real", "sumBeyond", "(JJ)J"⟩ ∈ lw_all := lw_inS (q := (⟨"ScoreHandles$Real", "sumBeyond", "(JJ)J"⟩, 7)) 49 (by decide +kernel) rfl
theorem qs50 : Cond.selects "ScoreHandles$Real" ⟨"ScoreHandles$Real", "aligned", "(JI)J"⟩ ⟨"ScoreHandles$Real", "aligned", "(JI)J"⟩ ∈ lw_all := lw_inS (q := (⟨"ScoreHandles$Real", "aligned", "(JI)J"⟩, 7)) 50 (by decide +kernel) rfl
theorem qs51 : Cond.selects "ScoreHandles$Runner" ⟨"ScoreHandles$Runner", "quotient", "(LScoreHandles$Handle;JJ)J"⟩ ⟨"ScoreHandles$Runner", "quotient", "(LScoreHandles$Handle;JJ)J"⟩ ∈ lw_all := lw_inS (q := (⟨"ScoreHandles$Runner", "quotient", "(LScoreHandles$Handle;JJ)J"⟩, 7)) 51 (by decide +kernel) rfl
theorem qs52 : Cond.selects "ScoreHandles$Real" ⟨"ScoreHandles$Real", "quotientOf", "(JJ)J"⟩ ⟨"ScoreHandles$Real", "quotientOf", "(JJ)J"⟩ ∈ lw_all := lw_inS (q := (⟨"ScoreHandles$Real", "quotientOf", "(JJ)J"⟩, 7)) 52 (by decide +kernel) rfl
theorem qs53 : Cond.selects "ScoreHandles$Real" ⟨"ScoreHandles$Real", "divided", "(ZJJ)J"⟩ ⟨"ScoreHandles$Real", "divided", "(ZJJ)J"⟩ ∈ lw_all := lw_inS (q := (⟨"ScoreHandles$Real", "divided", "(ZJJ)J"⟩, 7)) 53 (by decide +kernel) rfl
theorem qs54 : Cond.selects "ScoreHandles$Runner" ⟨"ScoreHandles$Runner", "fail", "(LScoreHandles$Handle;I)J"⟩ ⟨"ScoreHandles$Runner", "fail", "(LScoreHandles$Handle;I)J"⟩ ∈ lw_all := lw_inS (q := (⟨"ScoreHandles$Runner", "fail", "(LScoreHandles$Handle;I)J"⟩, 7)) 54 (by decide +kernel) rfl
theorem qs55 : Cond.selects "ScoreHandles$Real" ⟨"ScoreHandles$Real", "isAbove", "(JJ)Z"⟩ ⟨"ScoreHandles$Real", "isAbove", "(JJ)Z"⟩ ∈ lw_all := lw_inS (q := (⟨"ScoreHandles$Real", "isAbove", "(JJ)Z"⟩, 7)) 55 (by decide +kernel) rfl
theorem qs56 : Cond.selects "ScoreHandles$Real" ⟨"ScoreHandles$Real", "ordered", "(J)J"⟩ ⟨"ScoreHandles$Real", "ordered", "(J)J"⟩ ∈ lw_all := lw_inS (q := (⟨"ScoreHandles$Real", "ordered", "(J)J"⟩, 7)) 56 (by decide +kernel) rfl
theorem qs57 : Cond.selects "ScoreHandles$Runner" ⟨"ScoreHandles$Runner", "arrange", "(LScoreHandles$Handle;I)J"⟩ ⟨"ScoreHandles$Runner", "arrange", "(LScoreHandles$Handle;I)J"⟩ ∈ lw_all := lw_inS (q := (⟨"ScoreHandles$Runner", "arrange", "(LScoreHandles$Handle;I)J"⟩, 7)) 57 (by decide +kernel) rfl
theorem qs58 : Cond.selects "ScoreHandles$Runner" ⟨"ScoreHandles$Runner", "handOn", "(III)V"⟩ ⟨"ScoreHandles$Runner", "handOn", "(III)V"⟩ ∈ lw_all := lw_inS (q := (⟨"ScoreHandles$Runner", "handOn", "(III)V"⟩, 7)) 58 (by decide +kernel) rfl
theorem qs59 : Cond.selects "ScoreHandles$Runner" ⟨"ScoreHandles$Runner", "filter", "(LScoreHandles$Handle;I)J"⟩ ⟨"ScoreHandles$Runner", "filter", "(LScoreHandles$Handle;I)J"⟩ ∈ lw_all := lw_inS (q := (⟨"ScoreHandles$Runner", "filter", "(LScoreHandles$Handle;I)J"⟩, 7)) 59 (by decide +kernel) rfl
theorem qs60 : Cond.selects "ScoreHandles$Runner" ⟨"ScoreHandles$Runner", "fold", "(LScoreHandles$Handle;I)J"⟩ ⟨"ScoreHandles$Runner", "fold", "(LScoreHandles$Handle;I)J"⟩ ∈ lw_all := lw_inS (q := (⟨"ScoreHandles$Runner", "fold", "(LScoreHandles$Handle;I)J"⟩, 7)) 60 (by decide +kernel) rfl
theorem qs61 : Cond.selects "ScoreHandles$Runner" ⟨"ScoreHandles$Runner", "thenOther", "(LScoreHandles$Handle;I)J"⟩ ⟨"ScoreHandles$Runner", "thenOther", "(LScoreHandles$Handle;I)J"⟩ ∈ lw_all := lw_inS (q := (⟨"ScoreHandles$Runner", "thenOther", "(LScoreHandles$Handle;I)J"⟩, 7)) 61 (by decide +kernel) rfl
theorem qs62 : Cond.selects "ScoreHandles$Runner" ⟨"ScoreHandles$Runner", "guard", "(LScoreHandles$Handle;I)J"⟩ ⟨"ScoreHandles$Runner", "guard", "(LScoreHandles$Handle;I)J"⟩ ∈ lw_all := lw_inS (q := (⟨"ScoreHandles$Runner", "guard", "(LScoreHandles$Handle;I)J"⟩, 7)) 62 (by decide +kernel) rfl
theorem qs63 : Cond.selects "ScoreHandles$Runner" ⟨"ScoreHandles$Runner", "catchFailure", "(LScoreHandles$Handle;I)J"⟩ ⟨"ScoreHandles$Runner", "catchFailure", "(LScoreHandles$Handle;I)J"⟩ ∈ lw_all := lw_inS (q := (⟨"ScoreHandles$Runner", "catchFailure", "(LScoreHandles$Handle;I)J"⟩, 7)) 63 (by decide +kernel) rfl
theorem qs64 : Cond.selects "ScoreHandles$Runner" ⟨"ScoreHandles$Runner", "doAtLast", "(LScoreHandles$Handle;I)J"⟩ ⟨"ScoreHandles$Runner", "doAtLast", "(LScoreHandles$Handle;I)J"⟩ ∈ lw_all := lw_inS (q := (⟨"ScoreHandles$Runner", "doAtLast", "(LScoreHandles$Handle;I)J"⟩, 7)) 64 (by decide +kernel) rfl
theorem qs65 : Cond.selects "ScoreHandles$Runner" ⟨"ScoreHandles$Runner", "loop", "(LScoreHandles$Handle;I)J"⟩ ⟨"ScoreHandles$Runner", "loop", "(LScoreHandles$Handle;I)J"⟩ ∈ lw_all := lw_inS (q := (⟨"ScoreHandles$Runner", "loop", "(LScoreHandles$Handle;I)J"⟩, 7)) 65 (by decide +kernel) rfl
theorem qs66 : Cond.selects "ScoreHandles$Runner" ⟨"ScoreHandles$Runner", "widen", "(LScoreHandles$Handle;I)J"⟩ ⟨"ScoreHandles$Runner", "widen", "(LScoreHandles$Handle;I)J"⟩ ∈ lw_all := lw_inS (q := (⟨"ScoreHandles$Runner", "widen", "(LScoreHandles$Handle;I)J"⟩, 7)) 66 (by decide +kernel) rfl
theorem qs67 : Cond.selects "ScoreHandles$Runner" ⟨"ScoreHandles$Runner", "act", "(LScoreHandles$Handle;I)J"⟩ ⟨"ScoreHandles$Runner", "act", "(LScoreHandles$Handle;I)J"⟩ ∈ lw_all := lw_inS (q := (⟨"ScoreHandles$Runner", "act", "(LScoreHandles$Handle;I)J"⟩, 7)) 67 (by decide +kernel) rfl
theorem qs68 : Cond.selects "ScoreHandles$Runner" ⟨"ScoreHandles$Runner", "read", "(LScoreHandles$Handle;JJ)J"⟩ ⟨"ScoreHandles$Runner", "read", "(LScoreHandles$Handle;JJ)J"⟩ ∈ lw_all := lw_inS (q := (⟨"ScoreHandles$Runner", "read", "(LScoreHandles$Handle;JJ)J"⟩, 7)) 68 (by decide +kernel) rfl
theorem qs69 : Cond.selects "ScoreHandles$Runner" ⟨"ScoreHandles$Runner", "write", "(LScoreHandles$Handle;JJJ)J"⟩ ⟨"ScoreHandles$Runner", "write", "(LScoreHandles$Handle;JJJ)J"⟩ ∈ lw_all := lw_inS (q := (⟨"ScoreHandles$Runner", "write", "(LScoreHandles$Handle;JJJ)J"⟩, 7)) 69 (by decide +kernel) rfl
theorem qs70 : Cond.selects "ScoreHandles$Runner" ⟨"ScoreHandles$Runner", "sizeOf", "(LScoreHandles$Handle;J)J"⟩ ⟨"ScoreHandles$Runner", "sizeOf", "(LScoreHandles$Handle;J)J"⟩ ∈ lw_all := lw_inS (q := (⟨"ScoreHandles$Runner", "sizeOf", "(LScoreHandles$Handle;J)J"⟩, 7)) 70 (by decide +kernel) rfl
theorem qs71 : Cond.selects "ScoreHandles$Runner" ⟨"ScoreHandles$Runner", "newRow", "(LScoreHandles$Handle;J)J"⟩ ⟨"ScoreHandles$Runner", "newRow", "(LScoreHandles$Handle;J)J"⟩ ∈ lw_all := lw_inS (q := (⟨"ScoreHandles$Runner", "newRow", "(LScoreHandles$Handle;J)J"⟩, 7)) 71 (by decide +kernel) rfl
theorem qs72 : Cond.selects "ScoreHandlesModel" ⟨"ScoreHandlesModel", "freshRow", "(II)I"⟩ ⟨"ScoreHandlesModel", "freshRow", "(II)I"⟩ ∈ lw_all := lw_inS (q := (⟨"ScoreHandlesModel", "freshRow", "(II)I"⟩, 36)) 72 (by decide +kernel) rfl
theorem qs73 : Cond.selects "ScoreHandlesModel" ⟨"ScoreHandlesModel", "isItem", "(JJ)Z"⟩ ⟨"ScoreHandlesModel", "isItem", "(JJ)Z"⟩ ∈ lw_all := lw_inS (q := (⟨"ScoreHandlesModel", "isItem", "(JJ)Z"⟩, 36)) 73 (by decide +kernel) rfl
theorem qs74 : Cond.selects "ScoreHandlesModel" ⟨"ScoreHandlesModel", "isRow", "(J)Z"⟩ ⟨"ScoreHandlesModel", "isRow", "(J)Z"⟩ ∈ lw_all := lw_inS (q := (⟨"ScoreHandlesModel", "isRow", "(J)Z"⟩, 36)) 74 (by decide +kernel) rfl
theorem qs75 : Cond.selects "ScoreHandlesModel" ⟨"ScoreHandlesModel", "makeFirst", "(IIIJ)I"⟩ ⟨"ScoreHandlesModel", "makeFirst", "(IIIJ)I"⟩ ∈ lw_all := lw_inS (q := (⟨"ScoreHandlesModel", "makeFirst", "(IIIJ)I"⟩, 36)) 75 (by decide +kernel) rfl
theorem qs76 : Cond.selects "ScoreHandlesModel" ⟨"ScoreHandlesModel", "isValue", "(IJ)Z"⟩ ⟨"ScoreHandlesModel", "isValue", "(IJ)Z"⟩ ∈ lw_all := lw_inS (q := (⟨"ScoreHandlesModel", "isValue", "(IJ)Z"⟩, 36)) 76 (by decide +kernel) rfl
theorem qs77 : Cond.selects "ScoreHandlesModel" ⟨"ScoreHandlesModel", "gives", "(I)V"⟩ ⟨"ScoreHandlesModel", "gives", "(I)V"⟩ ∈ lw_all := lw_inS (q := (⟨"ScoreHandlesModel", "gives", "(I)V"⟩, 36)) 77 (by decide +kernel) rfl
theorem qs78 : Cond.selects "ScoreHandlesModel" ⟨"ScoreHandlesModel", "takes", "(I)V"⟩ ⟨"ScoreHandlesModel", "takes", "(I)V"⟩ ∈ lw_all := lw_inS (q := (⟨"ScoreHandlesModel", "takes", "(I)V"⟩, 36)) 78 (by decide +kernel) rfl
theorem qs79 : Cond.selects "ScoreHandlesModel" ⟨"ScoreHandlesModel", "makeFilter", "(III)I"⟩ ⟨"ScoreHandlesModel", "makeFilter", "(III)I"⟩ ∈ lw_all := lw_inS (q := (⟨"ScoreHandlesModel", "makeFilter", "(III)I"⟩, 36)) 79 (by decide +kernel) rfl
theorem qs80 : Cond.selects "ScoreHandlesModel" ⟨"ScoreHandlesModel", "isHandle", "(I)Z"⟩ ⟨"ScoreHandlesModel", "isHandle", "(I)Z"⟩ ∈ lw_all := lw_inS (q := (⟨"ScoreHandlesModel", "isHandle", "(I)Z"⟩, 36)) 80 (by decide +kernel) rfl
theorem qs81 : Cond.selects "ScoreHandlesModel" ⟨"ScoreHandlesModel", "kind", "(II)I"⟩ ⟨"ScoreHandlesModel", "kind", "(II)I"⟩ ∈ lw_all := lw_inS (q := (⟨"ScoreHandlesModel", "kind", "(II)I"⟩, 36)) 81 (by decide +kernel) rfl
theorem qs82 : Cond.selects "ScoreHandlesModel" ⟨"ScoreHandlesModel", "makeGuard", "(III)I"⟩ ⟨"ScoreHandlesModel", "makeGuard", "(III)I"⟩ ∈ lw_all := lw_inS (q := (⟨"ScoreHandlesModel", "makeGuard", "(III)I"⟩, 36)) 82 (by decide +kernel) rfl
theorem qs83 : Cond.selects "ScoreHandlesModel" ⟨"ScoreHandlesModel", "takesOf", "(II)V"⟩ ⟨"ScoreHandlesModel", "takesOf", "(II)V"⟩ ∈ lw_all := lw_inS (q := (⟨"ScoreHandlesModel", "takesOf", "(II)V"⟩, 36)) 83 (by decide +kernel) rfl
theorem qs84 : Cond.selects "ScoreHandlesModel" ⟨"ScoreHandlesModel", "isAlike", "(II)Z"⟩ ⟨"ScoreHandlesModel", "isAlike", "(II)Z"⟩ ∈ lw_all := lw_inS (q := (⟨"ScoreHandlesModel", "isAlike", "(II)Z"⟩, 36)) 84 (by decide +kernel) rfl
theorem qs85 : Cond.selects "ScoreHandlesModel" ⟨"ScoreHandlesModel", "isFirst", "(IIII)Z"⟩ ⟨"ScoreHandlesModel", "isFirst", "(IIII)Z"⟩ ∈ lw_all := lw_inS (q := (⟨"ScoreHandlesModel", "isFirst", "(IIII)Z"⟩, 36)) 85 (by decide +kernel) rfl
theorem qs86 : Cond.selects "ScoreHandlesModel" ⟨"ScoreHandlesModel", "makeCatch", "(III)I"⟩ ⟨"ScoreHandlesModel", "makeCatch", "(III)I"⟩ ∈ lw_all := lw_inS (q := (⟨"ScoreHandlesModel", "makeCatch", "(III)I"⟩, 36)) 86 (by decide +kernel) rfl
theorem qs87 : Cond.selects "ScoreHandlesModel" ⟨"ScoreHandlesModel", "makeTwo", "(III)I"⟩ ⟨"ScoreHandlesModel", "makeTwo", "(III)I"⟩ ∈ lw_all := lw_inS (q := (⟨"ScoreHandlesModel", "makeTwo", "(III)I"⟩, 36)) 87 (by decide +kernel) rfl
theorem qs88 : Cond.selects "ScoreHandlesModel" ⟨"ScoreHandlesModel", "makeOne", "(IIIIJ)I"⟩ ⟨"ScoreHandlesModel", "makeOne", "(IIIIJ)I"⟩ ∈ lw_all := lw_inS (q := (⟨"ScoreHandlesModel", "makeOne", "(IIIIJ)I"⟩, 36)) 88 (by decide +kernel) rfl
theorem qs89 : Cond.selects "ScoreHandlesModel" ⟨"ScoreHandlesModel", "handGoes", "(I)Z"⟩ ⟨"ScoreHandlesModel", "handGoes", "(I)Z"⟩ ∈ lw_all := lw_inS (q := (⟨"ScoreHandlesModel", "handGoes", "(I)Z"⟩, 36)) 89 (by decide +kernel) rfl
theorem qs90 : Cond.selects "ScoreHandlesModel" ⟨"ScoreHandlesModel", "isOne", "(II)Z"⟩ ⟨"ScoreHandlesModel", "isOne", "(II)Z"⟩ ∈ lw_all := lw_inS (q := (⟨"ScoreHandlesModel", "isOne", "(II)Z"⟩, 36)) 90 (by decide +kernel) rfl
theorem qs91 : Cond.selects "ScoreHandlesModel" ⟨"ScoreHandlesModel", "isHand", "(I)Z"⟩ ⟨"ScoreHandlesModel", "isHand", "(I)Z"⟩ ∈ lw_all := lw_inS (q := (⟨"ScoreHandlesModel", "isHand", "(I)Z"⟩, 36)) 91 (by decide +kernel) rfl
theorem qs92 : Cond.selects "ScoreHandlesModel" ⟨"ScoreHandlesModel", "begin", "(I)V"⟩ ⟨"ScoreHandlesModel", "begin", "(I)V"⟩ ∈ lw_all := lw_inS (q := (⟨"ScoreHandlesModel", "begin", "(I)V"⟩, 36)) 92 (by decide +kernel) rfl
theorem qs93 : Cond.selects "ScoreHandlesModel" ⟨"ScoreHandlesModel", "one", "()V"⟩ ⟨"ScoreHandlesModel", "one", "()V"⟩ ∈ lw_all := lw_inS (q := (⟨"ScoreHandlesModel", "one", "()V"⟩, 36)) 93 (by decide +kernel) rfl
theorem qs94 : Cond.selects "ScoreHandlesModel" ⟨"ScoreHandlesModel", "acts", "(I)V"⟩ ⟨"ScoreHandlesModel", "acts", "(I)V"⟩ ∈ lw_all := lw_inS (q := (⟨"ScoreHandlesModel", "acts", "(I)V"⟩, 36)) 94 (by decide +kernel) rfl
theorem qs95 : Cond.selects "ScoreHandlesModel" ⟨"ScoreHandlesModel", "end", "(J)V"⟩ ⟨"ScoreHandlesModel", "end", "(J)V"⟩ ∈ lw_all := lw_inS (q := (⟨"ScoreHandlesModel", "end", "(J)V"⟩, 36)) 95 (by decide +kernel) rfl
theorem qs96 : Cond.selects "ScoreHandlesModel" ⟨"ScoreHandlesModel", "reads", "(IZ)V"⟩ ⟨"ScoreHandlesModel", "reads", "(IZ)V"⟩ ∈ lw_all := lw_inS (q := (⟨"ScoreHandlesModel", "reads", "(IZ)V"⟩, 36)) 96 (by decide +kernel) rfl
theorem qs97 : Cond.selects "ScoreHandlesModel" ⟨"ScoreHandlesModel", "fail", "(I)V"⟩ ⟨"ScoreHandlesModel", "fail", "(I)V"⟩ ∈ lw_all := lw_inS (q := (⟨"ScoreHandlesModel", "fail", "(I)V"⟩, 36)) 97 (by decide +kernel) rfl
theorem qs98 : Cond.selects "ScoreHandlesModel" ⟨"ScoreHandlesModel", "reckons", "(I)V"⟩ ⟨"ScoreHandlesModel", "reckons", "(I)V"⟩ ∈ lw_all := lw_inS (q := (⟨"ScoreHandlesModel", "reckons", "(I)V"⟩, 36)) 98 (by decide +kernel) rfl
theorem qs99 : Cond.selects "ScoreHandlesModel" ⟨"ScoreHandlesModel", "catches", "(I)V"⟩ ⟨"ScoreHandlesModel", "catches", "(I)V"⟩ ∈ lw_all := lw_inS (q := (⟨"ScoreHandlesModel", "catches", "(I)V"⟩, 36)) 99 (by decide +kernel) rfl
theorem qs100 : Cond.selects "ScoreHandlesModel" ⟨"ScoreHandlesModel", "begins", "(I)V"⟩ ⟨"ScoreHandlesModel", "begins", "(I)V"⟩ ∈ lw_all := lw_inS (q := (⟨"ScoreHandlesModel", "begins", "(I)V"⟩, 36)) 100 (by decide +kernel) rfl
theorem qs101 : Cond.selects "ScoreHandlesModel" ⟨"ScoreHandlesModel", "pass", "(II)V"⟩ ⟨"ScoreHandlesModel", "pass", "(II)V"⟩ ∈ lw_all := lw_inS (q := (⟨"ScoreHandlesModel", "pass", "(II)V"⟩, 36)) 101 (by decide +kernel) rfl
theorem qs102 : Cond.selects "ScoreHandlesModel" ⟨"ScoreHandlesModel", "giveOn", "()V"⟩ ⟨"ScoreHandlesModel", "giveOn", "()V"⟩ ∈ lw_all := lw_inS (q := (⟨"ScoreHandlesModel", "giveOn", "()V"⟩, 36)) 102 (by decide +kernel) rfl
theorem qs103 : Cond.selects "ScoreHandlesModel" ⟨"ScoreHandlesModel", "lasts", "(I)V"⟩ ⟨"ScoreHandlesModel", "lasts", "(I)V"⟩ ∈ lw_all := lw_inS (q := (⟨"ScoreHandlesModel", "lasts", "(I)V"⟩, 36)) 103 (by decide +kernel) rfl
theorem qs104 : Cond.selects "ScoreHandlesModel" ⟨"ScoreHandlesModel", "loops", "(I)V"⟩ ⟨"ScoreHandlesModel", "loops", "(I)V"⟩ ∈ lw_all := lw_inS (q := (⟨"ScoreHandlesModel", "loops", "(I)V"⟩, 36)) 104 (by decide +kernel) rfl
theorem qs105 : Cond.selects "ScoreHandlesModel" ⟨"ScoreHandlesModel", "handsOn", "(I)V"⟩ ⟨"ScoreHandlesModel", "handsOn", "(I)V"⟩ ∈ lw_all := lw_inS (q := (⟨"ScoreHandlesModel", "handsOn", "(I)V"⟩, 36)) 105 (by decide +kernel) rfl
theorem qs106 : Cond.selects "ScoreHandlesModel" ⟨"ScoreHandlesModel", "goesOn", "(I)V"⟩ ⟨"ScoreHandlesModel", "goesOn", "(I)V"⟩ ∈ lw_all := lw_inS (q := (⟨"ScoreHandlesModel", "goesOn", "(I)V"⟩, 36)) 106 (by decide +kernel) rfl
