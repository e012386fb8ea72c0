/-! THE LAW: its words, by their places in the tables (0) -/
def GW (w : Cond) : Prop := w ∈ lw_tbl ∧ ((w.onTables && w.keeps) = true ∨ ∃ ty, w = .arrayClass ty)
theorem gwd {w : Cond} (i : Nat) (h : lw_tbl[i]? = some w) (g : goodWord w = true) : GW w := ⟨List.mem_of_getElem? h, good_of_word g⟩
theorem gcn : GoodIn lw_tbl [] := fun w h => absurd h List.not_mem_nil
theorem gcc {w : Cond} {ws : List Cond} (h : GW w) (t : GoodIn lw_tbl ws) : GoodIn lw_tbl (w :: ws) := fun v hv => (List.mem_cons.mp hv).elim (fun e => by rw [e]; exact h) (t v)
theorem good_back {w : Cond} (h : (w.onTables && w.keeps) = true ∨ ∃ ty, w = .arrayClass ty) : goodWord w = true := by
  cases w <;> first | rfl | exact h.resolve_right (fun ⟨_, e⟩ => by cases e)
/-- all words of the tables that hold for a callee too -/
def gT : List Cond := lw_tbl.filter goodWord
theorem gT_mem {w : Cond} (h : GW w) : w ∈ gT := List.mem_filter.mpr ⟨h.1, good_back h.2⟩
theorem gT_back {w : Cond} (h : w ∈ gT) : GW w := ⟨(List.mem_filter.mp h).1, good_of_word (List.mem_filter.mp h).2⟩
theorem gTt {c w : Cond} (h : GW w) : w ∈ c :: gT := List.mem_cons_of_mem _ (gT_mem h)
theorem gT_in {c : Cond} {ws : List Cond} (h : GoodIn lw_tbl ws) : GoodIn (c :: gT) ws := fun w hw => ⟨gTt (h w hw), (h w hw).2⟩
/-- the code that the tables have at a place, where it is too long to be compared -/
def codeAt (i : Nat) : ByteArray := match lw_tbl[i]? with
  | some (.code _ c _ _) => c
  | _ => ByteArray.empty
def isCode (y : MethodName) (ml : Nat) (ret : Option FieldType) : Option Cond → Bool
  | some (.code y' _ ml' ret') => decide (y' = y) && (decide (ml' = ml) && decide (ret' = ret))
  | _ => false
theorem codeAt_ok {i : Nat} {y : MethodName} {ml : Nat} {ret : Option FieldType} (h : isCode y ml ret (lw_tbl[i]?) = true) : lw_tbl[i]? = some (.code y (codeAt i) ml ret) := by
  unfold codeAt
  cases e : lw_tbl[i]? with
  | none => rw [e] at h; exact absurd h Bool.false_ne_true
  | some w =>
    rw [e] at h
    cases w <;> first | exact absurd h Bool.false_ne_true | skip
    simp only [isCode, Bool.and_eq_true, decide_eq_true_eq] at h
    obtain ⟨rfl, rfl, rfl⟩ := h
    rfl
theorem gT_cl {c : Cond} (h : GW c) : GoodIn lw_tbl (c :: gT) := fun w hw => (List.mem_cons.mp hw).elim (fun e => by rw [e]; exact h) (fun h => gT_back h)
theorem tw1 : GW (Cond.selects RX11 yX11_saveState yX11_saveState) := gwd 1 (by decide +kernel) rfl
theorem tw2 : GW (Cond.selects RX1 yX1_append yX1_append) := gwd 2 (by decide +kernel) rfl
theorem tw3 : GW (Cond.selects RX1 yX1_collectSecondOrder yX1_collectSecondOrder) := gwd 3 (by decide +kernel) rfl
theorem tw4 : GW (Cond.selects RX6 yX6_listen yX6_listen) := gwd 4 (by decide +kernel) rfl
theorem tw5 : GW (Cond.selects RX6 yX6_isPreferred yX6_isPreferred) := gwd 5 (by decide +kernel) rfl
theorem tw6 : GW (Cond.selects RX6 yX6_write yX6_write) := gwd 6 (by decide +kernel) rfl
theorem tw7 : GW (Cond.selects RX8 yX8_gatherHearers yX8_gatherHearers) := gwd 7 (by decide +kernel) rfl
theorem tw8 : GW (Cond.selects RX8 yX8_judge yX8_judge) := gwd 8 (by decide +kernel) rfl
theorem tw9 : GW (Cond.selects RX8 yX8_traceStarts yX8_traceStarts) := gwd 9 (by decide +kernel) rfl
theorem tw10 : GW (Cond.selects RX8 yX8_gapOf yX8_gapOf) := gwd 10 (by decide +kernel) rfl
theorem tw11 : GW (Cond.selects RX8 yX8_choose yX8_choose) := gwd 11 (by decide +kernel) rfl
theorem tw12 : GW (Cond.selects RX11 yX11_valueOfWhole yX11_valueOfWhole) := gwd 12 (by decide +kernel) rfl
theorem tw13 : GW (Cond.initialized RL) := gwd 13 (by decide +kernel) rfl
theorem tw14 : GW (Cond.initialized RX11) := gwd 14 (by decide +kernel) rfl
theorem tw15 : GW (Cond.initialized RX2) := gwd 15 (by decide +kernel) rfl
theorem tw16 : GW (Cond.initialized RX9) := gwd 16 (by decide +kernel) rfl
theorem tw17 : GW (Cond.initialized "java/lang/Math") := gwd 17 (by decide +kernel) rfl
theorem tw18 : GW (Cond.initialized RX1) := gwd 18 (by decide +kernel) rfl
theorem tw19 : GW (Cond.initialized RX6) := gwd 19 (by decide +kernel) rfl
theorem tw20 : GW (Cond.initialized RX8) := gwd 20 (by decide +kernel) rfl
theorem tw21 : GW (Cond.initialized RX10) := gwd 21 (by decide +kernel) rfl
theorem tw22 : GW (Cond.initialized RX5) := gwd 22 (by decide +kernel) rfl
theorem tw23 : GW (Cond.initialized RX4) := gwd 23 (by decide +kernel) rfl
theorem tw27 : GW (Cond.initialized "java/lang/IndexOutOfBoundsException") := gwd 27 (by decide +kernel) rfl
theorem tw28 : GW (Cond.initialized "java/lang/IllegalArgumentException") := gwd 28 (by decide +kernel) rfl
theorem tw29 : GW (Cond.initialized "java/lang/IllegalStateException") := gwd 29 (by decide +kernel) rfl
theorem tw30 : GW (Cond.initialized RX7) := gwd 30 (by decide +kernel) rfl
theorem tw31 : GW (Cond.initialized "java/lang/System") := gwd 31 (by decide +kernel) rfl
theorem tw32 : GW (Cond.classLink RL 101 RX11) := gwd 32 (by decide +kernel) rfl
theorem tw33 : GW (Cond.instantiable RX11 8) := gwd 33 (by decide +kernel) rfl
theorem tw34 : GW (Cond.methodLink RL 184 yX11_init) := gwd 34 (by decide +kernel) rfl
theorem tw36 : GW (Cond.code yX11_init cX11_init 1 none) := gwd 36 (by decide +kernel) rfl
theorem tw37 : GW (Cond.methodLink RX11 1 objectInit) := gwd 37 (by decide +kernel) rfl
theorem tw38 : GW (Cond.instanceMethod objectInit) := gwd 38 (by decide +kernel) rfl
theorem tw39 : GW (Cond.code objectInit ⟨#[0xb1]⟩ 1 none) := gwd 39 (by decide +kernel) rfl
theorem tw40 : GW (Cond.classLink RX11 7 RX2) := gwd 40 (by decide +kernel) rfl
theorem tw41 : GW (Cond.instantiable RX2 8) := gwd 41 (by decide +kernel) rfl
theorem tw42 : GW (Cond.methodLink RX11 9 yX2_init) := gwd 42 (by decide +kernel) rfl
theorem tw43 : GW (Cond.instanceMethod yX2_init) := gwd 43 (by decide +kernel) rfl
theorem tw44 : GW (Cond.code yX2_init cX2_init 2 none) := gwd 44 (by decide +kernel) rfl
theorem tw45 : GW (Cond.methodLink RX2 3 objectInit) := gwd 45 (by decide +kernel) rfl
theorem tw46 : GW (Cond.classLink RX2 24 RX9) := gwd 46 (by decide +kernel) rfl
theorem tw47 : GW (Cond.instantiable RX9 4) := gwd 47 (by decide +kernel) rfl
theorem tw48 : GW (Cond.methodLink RX2 26 yX9_init) := gwd 48 (by decide +kernel) rfl
theorem tw49 : GW (Cond.instanceMethod yX9_init) := gwd 49 (by decide +kernel) rfl
theorem tw50 : GW (Cond.code yX9_init cX9_init 3 none) := gwd 50 (by decide +kernel) rfl
theorem tw51 : GW (Cond.methodLink RX9 3 objectInit) := gwd 51 (by decide +kernel) rfl
theorem tw52 : GW (Cond.methodLink RX9 21 Lib.Math.max.name) := gwd 52 (by decide +kernel) rfl
theorem tw53 : GW (Cond.static Lib.Math.max.name) := gwd 53 (by decide +kernel) rfl
theorem tw54 : GW (Cond.code Lib.Math.max.name Lib.Math.max.code 2 (some .int)) := gwd 54 (by decide +kernel) rfl
theorem tw55 : GW (Cond.fieldLink RX9 15 "ClickBench$Table" "capacity" "I") := gwd 55 (by decide +kernel) rfl
theorem tw56 : GW (Cond.fieldLink RX9 18 "ClickBench$Table" "width" "I") := gwd 56 (by decide +kernel) rfl
theorem tw57 : GW (Cond.fieldLink RX9 27 "ClickBench$Table" "values" "[I") := gwd 57 (by decide +kernel) rfl
theorem tw58 : GW (Cond.fieldLink RX9 9 "ClickBench$Table" "count" "I") := gwd 58 (by decide +kernel) rfl
theorem tw59 : GW (Cond.fieldLink RX1 20 "ClickBench$Table" "count" "I") := gwd 59 (by decide +kernel) rfl
theorem tw60 : GW (Cond.fieldLink RX6 24 "ClickBench$Table" "count" "I") := gwd 60 (by decide +kernel) rfl
theorem tw61 : GW (Cond.fieldLink RX2 69 "ClickBench$Table" "count" "I") := gwd 61 (by decide +kernel) rfl
theorem tw62 : GW (Cond.fieldLink RX8 74 "ClickBench$Table" "count" "I") := gwd 62 (by decide +kernel) rfl
theorem tw63 : GW (Cond.fieldLink RX11 131 "ClickBench$Table" "count" "I") := gwd 63 (by decide +kernel) rfl
theorem tw73 : GW (Cond.arrayClass .int) := gwd 73 (by decide +kernel) rfl
theorem tw76 : GW (Cond.methodLink RX2 46 yX9_addRow) := gwd 76 (by decide +kernel) rfl
theorem tw77 : GW (Cond.instanceMethod yX9_addRow) := gwd 77 (by decide +kernel) rfl
theorem tw78 : GW (Cond.selects RX9 yX9_addRow yX9_addRow) := gwd 78 (by decide +kernel) rfl
theorem tw79 : GW (Cond.code yX9_addRow cX9_addRow 3 (some .int)) := gwd 79 (by decide +kernel) rfl
theorem tw80 : GW (Cond.methodLink RX9 32 yX9_isFull) := gwd 80 (by decide +kernel) rfl
theorem tw81 : GW (Cond.instanceMethod yX9_isFull) := gwd 81 (by decide +kernel) rfl
theorem tw82 : GW (Cond.selects RX9 yX9_isFull yX9_isFull) := gwd 82 (by decide +kernel) rfl
theorem tw83 : GW (Cond.code yX9_isFull cX9_isFull 1 (some .boolean)) := gwd 83 (by decide +kernel) rfl
theorem tw84 : GW (Cond.constant RX9 31 (-1000000000)) := gwd 84 (by decide +kernel) rfl
theorem tw85 : GW (Cond.methodLink RX9 36 yX9_put) := gwd 85 (by decide +kernel) rfl
theorem tw86 : GW (Cond.instanceMethod yX9_put) := gwd 86 (by decide +kernel) rfl
theorem tw87 : GW (Cond.selects RX9 yX9_put yX9_put) := gwd 87 (by decide +kernel) rfl
theorem tw88 : GW (Cond.code yX9_put cX9_put 4 none) := gwd 88 (by decide +kernel) rfl
theorem tw91 : GW (Cond.methodLink RX2 53 yX9_put) := gwd 91 (by decide +kernel) rfl
theorem tw92 : GW (Cond.fieldLink RX2 9 "ClickBench$Bench" "columns" "I") := gwd 92 (by decide +kernel) rfl
theorem tw93 : GW (Cond.fieldLink RX11 303 "ClickBench$Bench" "columns" "I") := gwd 93 (by decide +kernel) rfl
theorem tw94 : GW (Cond.fieldLink RX2 15 "ClickBench$Bench" "rows" "I") := gwd 94 (by decide +kernel) rfl
theorem tw95 : GW (Cond.fieldLink RX11 306 "ClickBench$Bench" "rows" "I") := gwd 95 (by decide +kernel) rfl
theorem tw96 : GW (Cond.fieldLink RX2 18 "ClickBench$Bench" "clicks" "I") := gwd 96 (by decide +kernel) rfl
theorem tw97 : GW (Cond.fieldLink RX6 42 "ClickBench$Bench" "clicks" "I") := gwd 97 (by decide +kernel) rfl
theorem tw98 : GW (Cond.fieldLink RX11 315 "ClickBench$Bench" "clicks" "I") := gwd 98 (by decide +kernel) rfl
theorem tw99 : GW (Cond.fieldLink RX2 21 "ClickBench$Bench" "s" "I") := gwd 99 (by decide +kernel) rfl
theorem tw100 : GW (Cond.fieldLink RX11 140 "ClickBench$Bench" "s" "I") := gwd 100 (by decide +kernel) rfl
theorem tw101 : GW (Cond.fieldLink RX2 29 "ClickBench$Bench" "microphones" "LClickBench$Table;") := gwd 101 (by decide +kernel) rfl
theorem tw102 : GW (Cond.fieldLink RX6 18 "ClickBench$Bench" "microphones" "LClickBench$Table;") := gwd 102 (by decide +kernel) rfl
theorem tw103 : GW (Cond.fieldLink RX11 82 "ClickBench$Bench" "microphones" "LClickBench$Table;") := gwd 103 (by decide +kernel) rfl
theorem tw104 : GW (Cond.fieldLink RX8 70 "ClickBench$Bench" "microphones" "LClickBench$Table;") := gwd 104 (by decide +kernel) rfl
theorem tw105 : GW (Cond.fieldLink RX2 37 "ClickBench$Bench" "walls" "LClickBench$Table;") := gwd 105 (by decide +kernel) rfl
theorem tw106 : GW (Cond.fieldLink RX1 39 "ClickBench$Bench" "walls" "LClickBench$Table;") := gwd 106 (by decide +kernel) rfl
theorem tw107 : GW (Cond.fieldLink RX11 309 "ClickBench$Bench" "walls" "LClickBench$Table;") := gwd 107 (by decide +kernel) rfl
theorem tw108 : GW (Cond.fieldLink RX2 40 "ClickBench$Bench" "screens" "LClickBench$Table;") := gwd 108 (by decide +kernel) rfl
theorem tw109 : GW (Cond.fieldLink RX11 312 "ClickBench$Bench" "screens" "LClickBench$Table;") := gwd 109 (by decide +kernel) rfl
theorem tw110 : GW (Cond.fieldLink RX2 43 "ClickBench$Bench" "settings" "LClickBench$Table;") := gwd 110 (by decide +kernel) rfl
theorem tw128 : GW (Cond.classLink RX11 16 RX1) := gwd 128 (by decide +kernel) rfl
theorem tw129 : GW (Cond.instantiable RX1 1) := gwd 129 (by decide +kernel) rfl
theorem tw131 : GW (Cond.instanceMethod yX1_init) := gwd 131 (by decide +kernel) rfl
theorem tw132 : GW (Cond.code yX1_init cX1_init 1 none) := gwd 132 (by decide +kernel) rfl
theorem tw133 : GW (Cond.methodLink RX1 3 objectInit) := gwd 133 (by decide +kernel) rfl
theorem tw134 : GW (Cond.classLink RX1 9 RX9) := gwd 134 (by decide +kernel) rfl
theorem tw135 : GW (Cond.methodLink RX1 11 yX9_init) := gwd 135 (by decide +kernel) rfl
theorem tw136 : GW (Cond.fieldLink RX1 14 "ClickBench$Arrivals" "list" "LClickBench$Table;") := gwd 136 (by decide +kernel) rfl
theorem tw137 : GW (Cond.fieldLink RX6 62 "ClickBench$Arrivals" "list" "LClickBench$Table;") := gwd 137 (by decide +kernel) rfl
theorem tw138 : GW (Cond.fieldLink RX11 161 "ClickBench$Arrivals" "list" "LClickBench$Table;") := gwd 138 (by decide +kernel) rfl
theorem tw142 : GW (Cond.classLink RX11 23 RX6) := gwd 142 (by decide +kernel) rfl
theorem tw143 : GW (Cond.instantiable RX6 1) := gwd 143 (by decide +kernel) rfl
theorem tw145 : GW (Cond.instanceMethod yX6_init) := gwd 145 (by decide +kernel) rfl
theorem tw146 : GW (Cond.code yX6_init cX6_init 1 none) := gwd 146 (by decide +kernel) rfl
theorem tw147 : GW (Cond.methodLink RX6 3 objectInit) := gwd 147 (by decide +kernel) rfl
theorem tw148 : GW (Cond.classLink RX6 9 RX1) := gwd 148 (by decide +kernel) rfl
theorem tw150 : GW (Cond.fieldLink RX6 12 "ClickBench$Ear" "coming" "LClickBench$Arrivals;") := gwd 150 (by decide +kernel) rfl
theorem tw154 : GW (Cond.classLink RX11 30 RX8) := gwd 154 (by decide +kernel) rfl
theorem tw155 : GW (Cond.instantiable RX8 9) := gwd 155 (by decide +kernel) rfl
theorem tw157 : GW (Cond.instanceMethod yX8_init) := gwd 157 (by decide +kernel) rfl
theorem tw158 : GW (Cond.code yX8_init cX8_init 1 none) := gwd 158 (by decide +kernel) rfl
theorem tw159 : GW (Cond.methodLink RX8 3 objectInit) := gwd 159 (by decide +kernel) rfl
theorem tw160 : GW (Cond.constant RX8 28 (-1000000000)) := gwd 160 (by decide +kernel) rfl
theorem tw161 : GW (Cond.fieldLink RX8 9 "ClickBench$Survey" "votes" "[I") := gwd 161 (by decide +kernel) rfl
theorem tw162 : GW (Cond.fieldLink RX8 15 "ClickBench$Survey" "errors" "[I") := gwd 162 (by decide +kernel) rfl
theorem tw163 : GW (Cond.fieldLink RX8 18 "ClickBench$Survey" "hearers" "[I") := gwd 163 (by decide +kernel) rfl
theorem tw164 : GW (Cond.fieldLink RX8 21 "ClickBench$Survey" "starts" "[I") := gwd 164 (by decide +kernel) rfl
theorem tw165 : GW (Cond.fieldLink RX8 24 "ClickBench$Survey" "hearerCount" "I") := gwd 165 (by decide +kernel) rfl
theorem tw166 : GW (Cond.fieldLink RX11 318 "ClickBench$Survey" "hearerCount" "I") := gwd 166 (by decide +kernel) rfl
theorem tw167 : GW (Cond.fieldLink RX8 29 "ClickBench$Survey" "best" "I") := gwd 167 (by decide +kernel) rfl
theorem tw168 : GW (Cond.fieldLink RX11 185 "ClickBench$Survey" "best" "I") := gwd 168 (by decide +kernel) rfl
theorem tw169 : GW (Cond.fieldLink RX8 32 "ClickBench$Survey" "tiedCells" "I") := gwd 169 (by decide +kernel) rfl
theorem tw170 : GW (Cond.fieldLink RX11 188 "ClickBench$Survey" "tiedCells" "I") := gwd 170 (by decide +kernel) rfl
theorem tw171 : GW (Cond.fieldLink RX8 35 "ClickBench$Survey" "isFresh" "Z") := gwd 171 (by decide +kernel) rfl
theorem tw172 : GW (Cond.fieldLink RX8 39 "ClickBench$Survey" "leftOut" "I") := gwd 172 (by decide +kernel) rfl
theorem tw192 : GW (Cond.classLink RX11 37 RX10) := gwd 192 (by decide +kernel) rfl
theorem tw193 : GW (Cond.instantiable RX10 3) := gwd 193 (by decide +kernel) rfl
theorem tw194 : GW (Cond.methodLink RX11 39 yX10_init) := gwd 194 (by decide +kernel) rfl
theorem tw195 : GW (Cond.instanceMethod yX10_init) := gwd 195 (by decide +kernel) rfl
theorem tw196 : GW (Cond.code yX10_init cX10_init 2 none) := gwd 196 (by decide +kernel) rfl
theorem tw197 : GW (Cond.methodLink RX10 3 objectInit) := gwd 197 (by decide +kernel) rfl
theorem tw198 : GW (Cond.classLink RX10 9 RX2) := gwd 198 (by decide +kernel) rfl
theorem tw200 : GW (Cond.methodLink RX10 24 yX2_init) := gwd 200 (by decide +kernel) rfl
theorem tw201 : GW (Cond.fieldLink RX10 11 "ClickBench$UndoStack" "ring" "[LClickBench$Bench;") := gwd 201 (by decide +kernel) rfl
theorem tw202 : GW (Cond.fieldLink RX10 17 "ClickBench$UndoStack" "next" "I") := gwd 202 (by decide +kernel) rfl
theorem tw203 : GW (Cond.fieldLink RX10 21 "ClickBench$UndoStack" "depth" "I") := gwd 203 (by decide +kernel) rfl
theorem tw211 : GW (Cond.classLink RX11 44 RX5) := gwd 211 (by decide +kernel) rfl
theorem tw212 : GW (Cond.instantiable RX5 2) := gwd 212 (by decide +kernel) rfl
theorem tw214 : GW (Cond.instanceMethod yX5_init) := gwd 214 (by decide +kernel) rfl
theorem tw215 : GW (Cond.code yX5_init cX5_init 1 none) := gwd 215 (by decide +kernel) rfl
theorem tw216 : GW (Cond.methodLink RX5 3 objectInit) := gwd 216 (by decide +kernel) rfl
theorem tw217 : GW (Cond.fieldLink RX5 11 "ClickBench$CommandText" "bytes" "[I") := gwd 217 (by decide +kernel) rfl
theorem tw218 : GW (Cond.fieldLink RX5 15 "ClickBench$CommandText" "length" "I") := gwd 218 (by decide +kernel) rfl
theorem tw224 : GW (Cond.classLink RX11 51 RX4) := gwd 224 (by decide +kernel) rfl
theorem tw225 : GW (Cond.instantiable RX4 8) := gwd 225 (by decide +kernel) rfl
theorem tw227 : GW (Cond.instanceMethod yX4_init) := gwd 227 (by decide +kernel) rfl
theorem tw228 : GW (Cond.code yX4_init cX4_init 1 none) := gwd 228 (by decide +kernel) rfl
theorem tw229 : GW (Cond.methodLink RX4 5 objectInit) := gwd 229 (by decide +kernel) rfl
theorem tw230 : GW (Cond.classLink RX4 13 RX3) := gwd 230 (by decide +kernel) rfl
theorem tw232 : GW (Cond.fieldLink RX4 15 "ClickBench$CommandReader" "commands" "[LClickBench$Command;") := gwd 232 (by decide +kernel) rfl
theorem tw233 : GW (Cond.fieldLink RX4 19 "ClickBench$CommandReader" "numbers" "[I") := gwd 233 (by decide +kernel) rfl
theorem tw234 : GW (Cond.fieldLink RX4 23 "ClickBench$CommandReader" "count" "I") := gwd 234 (by decide +kernel) rfl
