/-! Names: classes, words, tables (written by a program out of the Statement) -/
def zt_P : u_T := fun k => match k with
  | 0 => ("IntervalPacker", "plain", "LIntervalPacker$Row;", true)
  | 1 => ("IntervalPacker", "packed", "LIntervalPacker$Row;", true)
  | 2 => ("IntervalPacker", "source", "LIntervalPacker$BitSource;", true)
  | 3 => ("IntervalPacker", "reader", "LIntervalPacker$Unpacking;", true)
  | _ => ("IntervalPacker", "writer", "LIntervalPacker$Packing;", true)
def zt_Row : u_T := fun k => match k with
  | 0 => ("IntervalPacker$Row", "bytes", "[I", true)
  | 1 => ("IntervalPacker$Row", "size", "I", false)
  | _ => ("IntervalPacker$Row", "overfull", "Z", false)
def zt_Cur : u_T := fun k => match k with
  | 0 => ("IntervalPacker$Cursor", "bytes", "[I", false)
  | 1 => ("IntervalPacker$Cursor", "size", "I", false)
  | 2 => ("IntervalPacker$Cursor", "end", "I", false)
  | 3 => ("IntervalPacker$Cursor", "next", "I", false)
  | 4 => ("IntervalPacker$Cursor", "fault", "I", false)
  | _ => ("IntervalPacker$Cursor", "place", "I", false)
def zt_Src : u_T := fun k => match k with
  | 0 => ("IntervalPacker$BitLine", "chances", "[I", true)
  | 1 => ("IntervalPacker$BitLine", "range", "J", false)
  | 2 => ("IntervalPacker$BitLine", "broken", "Z", false)
  | 3 => ("IntervalPacker$BitSource", "data", "[I", false)
  | 4 => ("IntervalPacker$BitSource", "next", "I", false)
  | 5 => ("IntervalPacker$BitSource", "end", "I", false)
  | 6 => ("IntervalPacker$BitSource", "codeNow", "J", false)
  | 7 => ("IntervalPacker$BitSource", "beyond", "Z", false)
  | 8 => ("IntervalPacker$BitSource", "taken", "I", false)
  | 9 => ("IntervalPacker$BitSource", "watched", "I", false)
  | 10 => ("IntervalPacker$BitSource", "keptRange", "J", false)
  | _ => ("IntervalPacker$BitSource", "keptCode", "J", false)
def zt_Snk : u_T := fun k => match k with
  | 0 => ("IntervalPacker$BitLine", "chances", "[I", true)
  | 1 => ("IntervalPacker$BitLine", "range", "J", false)
  | 2 => ("IntervalPacker$BitLine", "broken", "Z", false)
  | 3 => ("IntervalPacker$BitSink", "data", "[I", true)
  | 4 => ("IntervalPacker$BitSink", "size", "I", false)
  | _ => ("IntervalPacker$BitSink", "most", "I", false)
def zt_Mdl : u_T := fun k => match k with
  | 0 => ("IntervalPacker$Model", "chances", "[I", true)
  | 1 => ("IntervalPacker$Model", "distances", "[J", true)
  | 2 => ("IntervalPacker$Model", "state", "I", false)
  | 3 => ("IntervalPacker$Model", "lc", "I", false)
  | 4 => ("IntervalPacker$Model", "lp", "I", false)
  | 5 => ("IntervalPacker$Model", "pb", "I", false)
  | 6 => ("IntervalPacker$Model", "line", "LIntervalPacker$BitLine;", false)
  | 7 => ("IntervalPacker$Model", "kind", "I", false)
  | 8 => ("IntervalPacker$Model", "octet", "I", false)
  | 9 => ("IntervalPacker$Model", "length", "I", false)
  | _ => ("IntervalPacker$Model", "distance", "J", false)
def zt_Unp : u_T := fun k => match k with
  | 0 => ("IntervalPacker$Unpacking", "given", "LIntervalPacker$Row;", true)
  | 1 => ("IntervalPacker$Unpacking", "cursor", "LIntervalPacker$Cursor;", true)
  | 2 => ("IntervalPacker$Unpacking", "counts", "[I", true)
  | 3 => ("IntervalPacker$Unpacking", "model", "LIntervalPacker$Model;", true)
  | 4 => ("IntervalPacker$Unpacking", "source", "LIntervalPacker$BitSource;", true)
  | 5 => ("IntervalPacker$Unpacking", "sizes", "[J", true)
  | 6 => ("IntervalPacker$Unpacking", "gifts", "[J", true)
  | 7 => ("IntervalPacker$Unpacking", "sort", "I", false)
  | 8 => ("IntervalPacker$Unpacking", "blockPlace", "I", false)
  | 9 => ("IntervalPacker$Unpacking", "givenBefore", "I", false)
  | 10 => ("IntervalPacker$Unpacking", "saidSize", "J", false)
  | 11 => ("IntervalPacker$Unpacking", "saidGift", "J", false)
  | 12 => ("IntervalPacker$Unpacking", "dictionary", "I", false)
  | 13 => ("IntervalPacker$Unpacking", "isFirstChunk", "Z", false)
  | 14 => ("IntervalPacker$Unpacking", "lacksProperties", "Z", false)
  | 15 => ("IntervalPacker$Unpacking", "control", "I", false)
  | 16 => ("IntervalPacker$Unpacking", "gift", "I", false)
  | 17 => ("IntervalPacker$Unpacking", "dataSize", "I", false)
  | _ => ("IntervalPacker$Unpacking", "indexSize", "I", false)
def zt_Pkg : u_T := fun k => match k with
  | 0 => ("IntervalPacker$Packing", "draft", "LIntervalPacker$Row;", true)
  | 1 => ("IntervalPacker$Packing", "model", "LIntervalPacker$Model;", true)
  | 2 => ("IntervalPacker$Packing", "sink", "LIntervalPacker$BitSink;", true)
  | 3 => ("IntervalPacker$Packing", "end", "[I", true)
  | 4 => ("IntervalPacker$Packing", "plain", "LIntervalPacker$Row;", false)
  | 5 => ("IntervalPacker$Packing", "sort", "I", false)
  | 6 => ("IntervalPacker$Packing", "properties", "I", false)
  | 7 => ("IntervalPacker$Packing", "blockPlace", "I", false)
  | 8 => ("IntervalPacker$Packing", "blockSize", "J", false)
  | 9 => ("IntervalPacker$Packing", "indexSize", "I", false)
  | 10 => ("IntervalPacker$Packing", "isFirstChunk", "Z", false)
  | 11 => ("IntervalPacker$Packing", "isFirstCoded", "Z", false)
  | 12 => ("IntervalPacker$Packing", "isBehindPlain", "Z", false)
  | 13 => ("IntervalPacker$Packing", "matchLength", "I", false)
  | 14 => ("IntervalPacker$Packing", "matchDistance", "I", false)
  | 15 => ("IntervalPacker$Packing", "againLength", "I", false)
  | _ => ("IntervalPacker$Packing", "again", "I", false)
def zt_R : u_T := fun k => match k with
  | 0 => ("IntervalPackerModel", "plain", "[I", true)
  | 1 => ("IntervalPackerModel", "plainSize", "I", false)
  | 2 => ("IntervalPackerModel", "packed", "[I", true)
  | 3 => ("IntervalPackerModel", "packedSize", "I", false)
  | 4 => ("IntervalPackerModel", "made", "[I", true)
  | 5 => ("IntervalPackerModel", "madeSize", "I", false)
  | 6 => ("IntervalPackerModel", "box", "[I", true)
  | 7 => ("IntervalPackerModel", "boxSize", "I", false)
  | 8 => ("IntervalPackerModel", "chances", "[I", true)
  | 9 => ("IntervalPackerModel", "lc", "I", false)
  | 10 => ("IntervalPackerModel", "lp", "I", false)
  | 11 => ("IntervalPackerModel", "pb", "I", false)
  | 12 => ("IntervalPackerModel", "state", "I", false)
  | 13 => ("IntervalPackerModel", "r0", "J", false)
  | 14 => ("IntervalPackerModel", "r1", "J", false)
  | 15 => ("IntervalPackerModel", "r2", "J", false)
  | 16 => ("IntervalPackerModel", "r3", "J", false)
  | 17 => ("IntervalPackerModel", "range", "J", false)
  | 18 => ("IntervalPackerModel", "code", "J", false)
  | 19 => ("IntervalPackerModel", "next", "I", false)
  | 20 => ("IntervalPackerModel", "end", "I", false)
  | 21 => ("IntervalPackerModel", "left", "I", false)
  | 22 => ("IntervalPackerModel", "bad", "Z", false)
  | 23 => ("IntervalPackerModel", "first", "I", false)
  | 24 => ("IntervalPackerModel", "low", "[I", true)
  | 25 => ("IntervalPackerModel", "lowSize", "I", false)
  | 26 => ("IntervalPackerModel", "limit", "I", false)
  | 27 => ("IntervalPackerModel", "lost", "Z", false)
  | 28 => ("IntervalPackerModel", "at", "I", false)
  | 29 => ("IntervalPackerModel", "fault", "I", false)
  | 30 => ("IntervalPackerModel", "faultAt", "I", false)
  | 31 => ("IntervalPackerModel", "sort", "I", false)
  | 32 => ("IntervalPackerModel", "blocks", "I", false)
  | 33 => ("IntervalPackerModel", "sizes", "[I", true)
  | 34 => ("IntervalPackerModel", "gives", "[I", true)
  | 35 => ("IntervalPackerModel", "emptied", "Z", false)
  | 36 => ("IntervalPackerModel", "bare", "Z", false)
  | 37 => ("IntervalPackerModel", "watched", "I", false)
  | 38 => ("IntervalPackerModel", "looked", "I", false)
  | 39 => ("IntervalPackerModel", "keptRange", "J", false)
  | 40 => ("IntervalPackerModel", "keptCode", "J", false)
  | _ => ("IntervalPackerModel", "counts", "[I", true)
def zx_on (o : Nat) : String := ["IntervalPacker", "IntervalPacker$Row", "IntervalPacker$Cursor", "IntervalPacker$BitSource", "IntervalPacker$BitSink", "IntervalPacker$Model", "IntervalPacker$Unpacking", "IntervalPacker$Packing", "IntervalPackerModel", "IntervalPacker$BitLine", "java/util/Arrays", "java/lang/Long", "java/lang/Integer"].getD o ""
abbrev zx_cl : List vw_C := [("IntervalPacker", zt_P, 5), ("IntervalPacker$Row", zt_Row, 3), ("IntervalPacker$Cursor", zt_Cur, 6), ("IntervalPacker$BitSource", zt_Src, 12), ("IntervalPacker$BitSink", zt_Snk, 6), ("IntervalPacker$Model", zt_Mdl, 11), ("IntervalPacker$Unpacking", zt_Unp, 19), ("IntervalPacker$Packing", zt_Pkg, 17), ("IntervalPackerModel", zt_R, 42)]
def zx_kd (ci : Nat) : List Nat := [[2, 2, 2, 2, 2], [2, 0, 3], [2, 0, 0, 0, 0, 0], [2, 1, 3, 2, 0, 0, 1, 3, 0, 0, 1, 1], [2, 1, 3, 2, 0, 0], [2, 2, 0, 0, 0, 0, 2, 0, 0, 0, 1], [2, 2, 2, 2, 2, 2, 2, 0, 0, 0, 1, 1, 0, 3, 3, 0, 0, 0, 0], [2, 2, 2, 2, 2, 0, 0, 0, 1, 0, 3, 3, 3, 0, 0, 0, 0], [2, 0, 2, 0, 2, 0, 2, 0, 2, 0, 0, 0, 0, 1, 1, 1, 1, 1, 1, 0, 0, 0, 3, 0, 2, 0, 0, 3, 0, 0, 0, 0, 0, 2, 2, 3, 3, 0, 0, 1, 1, 2]].getD ci []
def zx_mgC : String := "IntervalPacker"
def zx_mgN : String := "MAGIC"
def zx_mgD : String := "[I"
def zx_WS : List Cond := lw_tbl.filter goodWord
theorem zx_good (w : Cond) (h : w ∈ zx_WS) : (w.onTables && w.keeps) = true ∨ ∃ ty, w = .arrayClass ty := good_of_word (List.mem_filter.mp h).2
theorem zx_r0 {w : Cond} (h : w ∈ tables_1_1) (hg : goodWord w = true) : w ∈ zx_WS := List.mem_filter.mpr ⟨List.mem_append_right _ (show w ∈ tables_1 from List.mem_append_left _ h), hg⟩
theorem zx_r1 {w : Cond} (h : w ∈ tables_1_2) (hg : goodWord w = true) : w ∈ zx_WS := List.mem_filter.mpr ⟨List.mem_append_right _ (show w ∈ tables_1 from List.mem_append_right _ (List.mem_append_left _ h)), hg⟩
theorem zx_r2 {w : Cond} (h : w ∈ tables_1_3) (hg : goodWord w = true) : w ∈ zx_WS := List.mem_filter.mpr ⟨List.mem_append_right _ (show w ∈ tables_1 from List.mem_append_right _ (List.mem_append_right _ (List.mem_append_left _ h))), hg⟩
theorem zx_r3 {w : Cond} (h : w ∈ tables_1_4) (hg : goodWord w = true) : w ∈ zx_WS := List.mem_filter.mpr ⟨List.mem_append_right _ (show w ∈ tables_1 from List.mem_append_right _ (List.mem_append_right _ (List.mem_append_right _ (List.mem_append_left _ h)))), hg⟩
theorem zx_r4 {w : Cond} (h : w ∈ tables_1_5) (hg : goodWord w = true) : w ∈ zx_WS := List.mem_filter.mpr ⟨List.mem_append_right _ (show w ∈ tables_1 from List.mem_append_right _ (List.mem_append_right _ (List.mem_append_right _ (List.mem_append_right _ (List.mem_append_left _ h))))), hg⟩
theorem zx_r5 {w : Cond} (h : w ∈ tables_1_6) (hg : goodWord w = true) : w ∈ zx_WS := List.mem_filter.mpr ⟨List.mem_append_right _ (show w ∈ tables_1 from List.mem_append_right _ (List.mem_append_right _ (List.mem_append_right _ (List.mem_append_right _ (List.mem_append_right _ (h)))))), hg⟩
theorem zx_rs {q : MethodName × Nat} (h : q ∈ lw_privs) : Cond.selects q.1.cls q.1 q.1 ∈ zx_WS := List.mem_filter.mpr ⟨List.mem_append_left _ (List.mem_map.mpr ⟨q, h, rfl⟩), rfl⟩
theorem wd_1_108 : (Jvm.Cond.laysFinal "IntervalPacker" "IntervalPacker" "plain" "LIntervalPacker$Row;") ∈ zx_WS := zx_r1 (List.mem_of_getElem? (i := 108) rfl) rfl
theorem wd_1_110 : (Jvm.Cond.laysFinal "IntervalPacker" "IntervalPacker" "packed" "LIntervalPacker$Row;") ∈ zx_WS := zx_r1 (List.mem_of_getElem? (i := 110) rfl) rfl
theorem wd_1_112 : (Jvm.Cond.laysFinal "IntervalPacker" "IntervalPacker" "source" "LIntervalPacker$BitSource;") ∈ zx_WS := zx_r1 (List.mem_of_getElem? (i := 112) rfl) rfl
theorem wd_1_114 : (Jvm.Cond.laysFinal "IntervalPacker" "IntervalPacker" "reader" "LIntervalPacker$Unpacking;") ∈ zx_WS := zx_r1 (List.mem_of_getElem? (i := 114) rfl) rfl
theorem wd_1_116 : (Jvm.Cond.laysFinal "IntervalPacker" "IntervalPacker" "writer" "LIntervalPacker$Packing;") ∈ zx_WS := zx_r1 (List.mem_of_getElem? (i := 116) rfl) rfl
theorem zu_P : ∀ w ∈ u_ws "IntervalPacker" zt_P 5, w ∈ zx_WS := by
  intro w hw
  rcases List.mem_map.mp hw with ⟨k, hk, rfl⟩
  have hk := List.mem_range.mp hk
  match k, hk with
  | 0, _ => exact wd_1_108
  | 1, _ => exact wd_1_110
  | 2, _ => exact wd_1_112
  | 3, _ => exact wd_1_114
  | 4, _ => exact wd_1_116
  | j + 5, h => exact absurd h (by omega)
theorem wd_0_43 : (Jvm.Cond.laysFinal "IntervalPacker$Row" "IntervalPacker$Row" "bytes" "[I") ∈ zx_WS := zx_r0 (List.mem_of_getElem? (i := 43) rfl) rfl
theorem wd_0_45 : (Jvm.Cond.lays "IntervalPacker$Row" "IntervalPacker$Row" "size" "I") ∈ zx_WS := zx_r0 (List.mem_of_getElem? (i := 45) rfl) rfl
theorem wd_0_47 : (Jvm.Cond.lays "IntervalPacker$Row" "IntervalPacker$Row" "overfull" "Z") ∈ zx_WS := zx_r0 (List.mem_of_getElem? (i := 47) rfl) rfl
theorem zu_Row : ∀ w ∈ u_ws "IntervalPacker$Row" zt_Row 3, w ∈ zx_WS := by
  intro w hw
  rcases List.mem_map.mp hw with ⟨k, hk, rfl⟩
  have hk := List.mem_range.mp hk
  match k, hk with
  | 0, _ => exact wd_0_43
  | 1, _ => exact wd_0_45
  | 2, _ => exact wd_0_47
  | j + 3, h => exact absurd h (by omega)
theorem wd_0_187 : (Jvm.Cond.lays "IntervalPacker$Cursor" "IntervalPacker$Cursor" "bytes" "[I") ∈ zx_WS := zx_r0 (List.mem_of_getElem? (i := 187) rfl) rfl
theorem wd_0_189 : (Jvm.Cond.lays "IntervalPacker$Cursor" "IntervalPacker$Cursor" "size" "I") ∈ zx_WS := zx_r0 (List.mem_of_getElem? (i := 189) rfl) rfl
theorem wd_0_191 : (Jvm.Cond.lays "IntervalPacker$Cursor" "IntervalPacker$Cursor" "end" "I") ∈ zx_WS := zx_r0 (List.mem_of_getElem? (i := 191) rfl) rfl
theorem wd_0_193 : (Jvm.Cond.lays "IntervalPacker$Cursor" "IntervalPacker$Cursor" "next" "I") ∈ zx_WS := zx_r0 (List.mem_of_getElem? (i := 193) rfl) rfl
theorem wd_0_195 : (Jvm.Cond.lays "IntervalPacker$Cursor" "IntervalPacker$Cursor" "fault" "I") ∈ zx_WS := zx_r0 (List.mem_of_getElem? (i := 195) rfl) rfl
theorem wd_0_197 : (Jvm.Cond.lays "IntervalPacker$Cursor" "IntervalPacker$Cursor" "place" "I") ∈ zx_WS := zx_r0 (List.mem_of_getElem? (i := 197) rfl) rfl
theorem zu_Cur : ∀ w ∈ u_ws "IntervalPacker$Cursor" zt_Cur 6, w ∈ zx_WS := by
  intro w hw
  rcases List.mem_map.mp hw with ⟨k, hk, rfl⟩
  have hk := List.mem_range.mp hk
  match k, hk with
  | 0, _ => exact wd_0_187
  | 1, _ => exact wd_0_189
  | 2, _ => exact wd_0_191
  | 3, _ => exact wd_0_193
  | 4, _ => exact wd_0_195
  | 5, _ => exact wd_0_197
  | j + 6, h => exact absurd h (by omega)
theorem wd_0_107 : (Jvm.Cond.laysFinal "IntervalPacker$BitSource" "IntervalPacker$BitLine" "chances" "[I") ∈ zx_WS := zx_r0 (List.mem_of_getElem? (i := 107) rfl) rfl
theorem wd_0_109 : (Jvm.Cond.lays "IntervalPacker$BitSource" "IntervalPacker$BitLine" "range" "J") ∈ zx_WS := zx_r0 (List.mem_of_getElem? (i := 109) rfl) rfl
theorem wd_0_111 : (Jvm.Cond.lays "IntervalPacker$BitSource" "IntervalPacker$BitLine" "broken" "Z") ∈ zx_WS := zx_r0 (List.mem_of_getElem? (i := 111) rfl) rfl
theorem wd_0_89 : (Jvm.Cond.lays "IntervalPacker$BitSource" "IntervalPacker$BitSource" "data" "[I") ∈ zx_WS := zx_r0 (List.mem_of_getElem? (i := 89) rfl) rfl
theorem wd_0_91 : (Jvm.Cond.lays "IntervalPacker$BitSource" "IntervalPacker$BitSource" "next" "I") ∈ zx_WS := zx_r0 (List.mem_of_getElem? (i := 91) rfl) rfl
theorem wd_0_93 : (Jvm.Cond.lays "IntervalPacker$BitSource" "IntervalPacker$BitSource" "end" "I") ∈ zx_WS := zx_r0 (List.mem_of_getElem? (i := 93) rfl) rfl
theorem wd_0_95 : (Jvm.Cond.lays "IntervalPacker$BitSource" "IntervalPacker$BitSource" "codeNow" "J") ∈ zx_WS := zx_r0 (List.mem_of_getElem? (i := 95) rfl) rfl
theorem wd_0_97 : (Jvm.Cond.lays "IntervalPacker$BitSource" "IntervalPacker$BitSource" "beyond" "Z") ∈ zx_WS := zx_r0 (List.mem_of_getElem? (i := 97) rfl) rfl
theorem wd_0_99 : (Jvm.Cond.lays "IntervalPacker$BitSource" "IntervalPacker$BitSource" "taken" "I") ∈ zx_WS := zx_r0 (List.mem_of_getElem? (i := 99) rfl) rfl
theorem wd_0_101 : (Jvm.Cond.lays "IntervalPacker$BitSource" "IntervalPacker$BitSource" "watched" "I") ∈ zx_WS := zx_r0 (List.mem_of_getElem? (i := 101) rfl) rfl
theorem wd_0_103 : (Jvm.Cond.lays "IntervalPacker$BitSource" "IntervalPacker$BitSource" "keptRange" "J") ∈ zx_WS := zx_r0 (List.mem_of_getElem? (i := 103) rfl) rfl
theorem wd_0_105 : (Jvm.Cond.lays "IntervalPacker$BitSource" "IntervalPacker$BitSource" "keptCode" "J") ∈ zx_WS := zx_r0 (List.mem_of_getElem? (i := 105) rfl) rfl
theorem zu_Src : ∀ w ∈ u_ws "IntervalPacker$BitSource" zt_Src 12, w ∈ zx_WS := by
  intro w hw
  rcases List.mem_map.mp hw with ⟨k, hk, rfl⟩
  have hk := List.mem_range.mp hk
  match k, hk with
  | 0, _ => exact wd_0_107
  | 1, _ => exact wd_0_109
  | 2, _ => exact wd_0_111
  | 3, _ => exact wd_0_89
  | 4, _ => exact wd_0_91
  | 5, _ => exact wd_0_93
  | 6, _ => exact wd_0_95
  | 7, _ => exact wd_0_97
  | 8, _ => exact wd_0_99
  | 9, _ => exact wd_0_101
  | 10, _ => exact wd_0_103
  | 11, _ => exact wd_0_105
  | j + 12, h => exact absurd h (by omega)
theorem wd_1_40 : (Jvm.Cond.laysFinal "IntervalPacker$BitSink" "IntervalPacker$BitLine" "chances" "[I") ∈ zx_WS := zx_r1 (List.mem_of_getElem? (i := 40) rfl) rfl
theorem wd_1_41 : (Jvm.Cond.lays "IntervalPacker$BitSink" "IntervalPacker$BitLine" "range" "J") ∈ zx_WS := zx_r1 (List.mem_of_getElem? (i := 41) rfl) rfl
theorem wd_1_42 : (Jvm.Cond.lays "IntervalPacker$BitSink" "IntervalPacker$BitLine" "broken" "Z") ∈ zx_WS := zx_r1 (List.mem_of_getElem? (i := 42) rfl) rfl
theorem wd_1_34 : (Jvm.Cond.laysFinal "IntervalPacker$BitSink" "IntervalPacker$BitSink" "data" "[I") ∈ zx_WS := zx_r1 (List.mem_of_getElem? (i := 34) rfl) rfl
theorem wd_1_36 : (Jvm.Cond.lays "IntervalPacker$BitSink" "IntervalPacker$BitSink" "size" "I") ∈ zx_WS := zx_r1 (List.mem_of_getElem? (i := 36) rfl) rfl
theorem wd_1_38 : (Jvm.Cond.lays "IntervalPacker$BitSink" "IntervalPacker$BitSink" "most" "I") ∈ zx_WS := zx_r1 (List.mem_of_getElem? (i := 38) rfl) rfl
theorem zu_Snk : ∀ w ∈ u_ws "IntervalPacker$BitSink" zt_Snk 6, w ∈ zx_WS := by
  intro w hw
  rcases List.mem_map.mp hw with ⟨k, hk, rfl⟩
  have hk := List.mem_range.mp hk
  match k, hk with
  | 0, _ => exact wd_1_40
  | 1, _ => exact wd_1_41
  | 2, _ => exact wd_1_42
  | 3, _ => exact wd_1_34
  | 4, _ => exact wd_1_36
  | 5, _ => exact wd_1_38
  | j + 6, h => exact absurd h (by omega)
theorem wd_0_138 : (Jvm.Cond.laysFinal "IntervalPacker$Model" "IntervalPacker$Model" "chances" "[I") ∈ zx_WS := zx_r0 (List.mem_of_getElem? (i := 138) rfl) rfl
theorem wd_0_140 : (Jvm.Cond.laysFinal "IntervalPacker$Model" "IntervalPacker$Model" "distances" "[J") ∈ zx_WS := zx_r0 (List.mem_of_getElem? (i := 140) rfl) rfl
theorem wd_0_142 : (Jvm.Cond.lays "IntervalPacker$Model" "IntervalPacker$Model" "state" "I") ∈ zx_WS := zx_r0 (List.mem_of_getElem? (i := 142) rfl) rfl
theorem wd_0_144 : (Jvm.Cond.lays "IntervalPacker$Model" "IntervalPacker$Model" "lc" "I") ∈ zx_WS := zx_r0 (List.mem_of_getElem? (i := 144) rfl) rfl
theorem wd_0_146 : (Jvm.Cond.lays "IntervalPacker$Model" "IntervalPacker$Model" "lp" "I") ∈ zx_WS := zx_r0 (List.mem_of_getElem? (i := 146) rfl) rfl
theorem wd_0_148 : (Jvm.Cond.lays "IntervalPacker$Model" "IntervalPacker$Model" "pb" "I") ∈ zx_WS := zx_r0 (List.mem_of_getElem? (i := 148) rfl) rfl
theorem wd_0_150 : (Jvm.Cond.lays "IntervalPacker$Model" "IntervalPacker$Model" "line" "LIntervalPacker$BitLine;") ∈ zx_WS := zx_r0 (List.mem_of_getElem? (i := 150) rfl) rfl
theorem wd_0_152 : (Jvm.Cond.lays "IntervalPacker$Model" "IntervalPacker$Model" "kind" "I") ∈ zx_WS := zx_r0 (List.mem_of_getElem? (i := 152) rfl) rfl
theorem wd_0_154 : (Jvm.Cond.lays "IntervalPacker$Model" "IntervalPacker$Model" "octet" "I") ∈ zx_WS := zx_r0 (List.mem_of_getElem? (i := 154) rfl) rfl
theorem wd_0_156 : (Jvm.Cond.lays "IntervalPacker$Model" "IntervalPacker$Model" "length" "I") ∈ zx_WS := zx_r0 (List.mem_of_getElem? (i := 156) rfl) rfl
theorem wd_0_158 : (Jvm.Cond.lays "IntervalPacker$Model" "IntervalPacker$Model" "distance" "J") ∈ zx_WS := zx_r0 (List.mem_of_getElem? (i := 158) rfl) rfl
theorem zu_Mdl : ∀ w ∈ u_ws "IntervalPacker$Model" zt_Mdl 11, w ∈ zx_WS := by
  intro w hw
  rcases List.mem_map.mp hw with ⟨k, hk, rfl⟩
  have hk := List.mem_range.mp hk
  match k, hk with
  | 0, _ => exact wd_0_138
  | 1, _ => exact wd_0_140
  | 2, _ => exact wd_0_142
  | 3, _ => exact wd_0_144
  | 4, _ => exact wd_0_146
  | 5, _ => exact wd_0_148
  | 6, _ => exact wd_0_150
  | 7, _ => exact wd_0_152
  | 8, _ => exact wd_0_154
  | 9, _ => exact wd_0_156
  | 10, _ => exact wd_0_158
  | j + 11, h => exact absurd h (by omega)
theorem wd_0_222 : (Jvm.Cond.laysFinal "IntervalPacker$Unpacking" "IntervalPacker$Unpacking" "given" "LIntervalPacker$Row;") ∈ zx_WS := zx_r0 (List.mem_of_getElem? (i := 222) rfl) rfl
theorem wd_0_224 : (Jvm.Cond.laysFinal "IntervalPacker$Unpacking" "IntervalPacker$Unpacking" "cursor" "LIntervalPacker$Cursor;") ∈ zx_WS := zx_r0 (List.mem_of_getElem? (i := 224) rfl) rfl
theorem wd_0_226 : (Jvm.Cond.laysFinal "IntervalPacker$Unpacking" "IntervalPacker$Unpacking" "counts" "[I") ∈ zx_WS := zx_r0 (List.mem_of_getElem? (i := 226) rfl) rfl
theorem wd_0_228 : (Jvm.Cond.laysFinal "IntervalPacker$Unpacking" "IntervalPacker$Unpacking" "model" "LIntervalPacker$Model;") ∈ zx_WS := zx_r0 (List.mem_of_getElem? (i := 228) rfl) rfl
theorem wd_0_230 : (Jvm.Cond.laysFinal "IntervalPacker$Unpacking" "IntervalPacker$Unpacking" "source" "LIntervalPacker$BitSource;") ∈ zx_WS := zx_r0 (List.mem_of_getElem? (i := 230) rfl) rfl
theorem wd_0_232 : (Jvm.Cond.laysFinal "IntervalPacker$Unpacking" "IntervalPacker$Unpacking" "sizes" "[J") ∈ zx_WS := zx_r0 (List.mem_of_getElem? (i := 232) rfl) rfl
theorem wd_0_234 : (Jvm.Cond.laysFinal "IntervalPacker$Unpacking" "IntervalPacker$Unpacking" "gifts" "[J") ∈ zx_WS := zx_r0 (List.mem_of_getElem? (i := 234) rfl) rfl
theorem wd_0_236 : (Jvm.Cond.lays "IntervalPacker$Unpacking" "IntervalPacker$Unpacking" "sort" "I") ∈ zx_WS := zx_r0 (List.mem_of_getElem? (i := 236) rfl) rfl
theorem wd_0_238 : (Jvm.Cond.lays "IntervalPacker$Unpacking" "IntervalPacker$Unpacking" "blockPlace" "I") ∈ zx_WS := zx_r0 (List.mem_of_getElem? (i := 238) rfl) rfl
theorem wd_1_0 : (Jvm.Cond.lays "IntervalPacker$Unpacking" "IntervalPacker$Unpacking" "givenBefore" "I") ∈ zx_WS := zx_r1 (List.mem_of_getElem? (i := 0) rfl) rfl
theorem wd_1_2 : (Jvm.Cond.lays "IntervalPacker$Unpacking" "IntervalPacker$Unpacking" "saidSize" "J") ∈ zx_WS := zx_r1 (List.mem_of_getElem? (i := 2) rfl) rfl
theorem wd_1_4 : (Jvm.Cond.lays "IntervalPacker$Unpacking" "IntervalPacker$Unpacking" "saidGift" "J") ∈ zx_WS := zx_r1 (List.mem_of_getElem? (i := 4) rfl) rfl
theorem wd_1_6 : (Jvm.Cond.lays "IntervalPacker$Unpacking" "IntervalPacker$Unpacking" "dictionary" "I") ∈ zx_WS := zx_r1 (List.mem_of_getElem? (i := 6) rfl) rfl
theorem wd_1_8 : (Jvm.Cond.lays "IntervalPacker$Unpacking" "IntervalPacker$Unpacking" "isFirstChunk" "Z") ∈ zx_WS := zx_r1 (List.mem_of_getElem? (i := 8) rfl) rfl
theorem wd_1_10 : (Jvm.Cond.lays "IntervalPacker$Unpacking" "IntervalPacker$Unpacking" "lacksProperties" "Z") ∈ zx_WS := zx_r1 (List.mem_of_getElem? (i := 10) rfl) rfl
theorem wd_1_12 : (Jvm.Cond.lays "IntervalPacker$Unpacking" "IntervalPacker$Unpacking" "control" "I") ∈ zx_WS := zx_r1 (List.mem_of_getElem? (i := 12) rfl) rfl
theorem wd_1_14 : (Jvm.Cond.lays "IntervalPacker$Unpacking" "IntervalPacker$Unpacking" "gift" "I") ∈ zx_WS := zx_r1 (List.mem_of_getElem? (i := 14) rfl) rfl
theorem wd_1_16 : (Jvm.Cond.lays "IntervalPacker$Unpacking" "IntervalPacker$Unpacking" "dataSize" "I") ∈ zx_WS := zx_r1 (List.mem_of_getElem? (i := 16) rfl) rfl
theorem wd_1_18 : (Jvm.Cond.lays "IntervalPacker$Unpacking" "IntervalPacker$Unpacking" "indexSize" "I") ∈ zx_WS := zx_r1 (List.mem_of_getElem? (i := 18) rfl) rfl
theorem zu_Unp : ∀ w ∈ u_ws "IntervalPacker$Unpacking" zt_Unp 19, w ∈ zx_WS := by
  intro w hw
  rcases List.mem_map.mp hw with ⟨k, hk, rfl⟩
  have hk := List.mem_range.mp hk
  match k, hk with
  | 0, _ => exact wd_0_222
  | 1, _ => exact wd_0_224
  | 2, _ => exact wd_0_226
  | 3, _ => exact wd_0_228
  | 4, _ => exact wd_0_230
  | 5, _ => exact wd_0_232
  | 6, _ => exact wd_0_234
  | 7, _ => exact wd_0_236
  | 8, _ => exact wd_0_238
  | 9, _ => exact wd_1_0
  | 10, _ => exact wd_1_2
  | 11, _ => exact wd_1_4
  | 12, _ => exact wd_1_6
  | 13, _ => exact wd_1_8
  | 14, _ => exact wd_1_10
  | 15, _ => exact wd_1_12
  | 16, _ => exact wd_1_14
  | 17, _ => exact wd_1_16
  | 18, _ => exact wd_1_18
  | j + 19, h => exact absurd h (by omega)
theorem wd_1_68 : (Jvm.Cond.laysFinal "IntervalPacker$Packing" "IntervalPacker$Packing" "draft" "LIntervalPacker$Row;") ∈ zx_WS := zx_r1 (List.mem_of_getElem? (i := 68) rfl) rfl
theorem wd_1_70 : (Jvm.Cond.laysFinal "IntervalPacker$Packing" "IntervalPacker$Packing" "model" "LIntervalPacker$Model;") ∈ zx_WS := zx_r1 (List.mem_of_getElem? (i := 70) rfl) rfl
theorem wd_1_72 : (Jvm.Cond.laysFinal "IntervalPacker$Packing" "IntervalPacker$Packing" "sink" "LIntervalPacker$BitSink;") ∈ zx_WS := zx_r1 (List.mem_of_getElem? (i := 72) rfl) rfl
theorem wd_1_74 : (Jvm.Cond.laysFinal "IntervalPacker$Packing" "IntervalPacker$Packing" "end" "[I") ∈ zx_WS := zx_r1 (List.mem_of_getElem? (i := 74) rfl) rfl
theorem wd_1_76 : (Jvm.Cond.lays "IntervalPacker$Packing" "IntervalPacker$Packing" "plain" "LIntervalPacker$Row;") ∈ zx_WS := zx_r1 (List.mem_of_getElem? (i := 76) rfl) rfl
theorem wd_1_78 : (Jvm.Cond.lays "IntervalPacker$Packing" "IntervalPacker$Packing" "sort" "I") ∈ zx_WS := zx_r1 (List.mem_of_getElem? (i := 78) rfl) rfl
theorem wd_1_80 : (Jvm.Cond.lays "IntervalPacker$Packing" "IntervalPacker$Packing" "properties" "I") ∈ zx_WS := zx_r1 (List.mem_of_getElem? (i := 80) rfl) rfl
theorem wd_1_82 : (Jvm.Cond.lays "IntervalPacker$Packing" "IntervalPacker$Packing" "blockPlace" "I") ∈ zx_WS := zx_r1 (List.mem_of_getElem? (i := 82) rfl) rfl
theorem wd_1_84 : (Jvm.Cond.lays "IntervalPacker$Packing" "IntervalPacker$Packing" "blockSize" "J") ∈ zx_WS := zx_r1 (List.mem_of_getElem? (i := 84) rfl) rfl
theorem wd_1_86 : (Jvm.Cond.lays "IntervalPacker$Packing" "IntervalPacker$Packing" "indexSize" "I") ∈ zx_WS := zx_r1 (List.mem_of_getElem? (i := 86) rfl) rfl
theorem wd_1_88 : (Jvm.Cond.lays "IntervalPacker$Packing" "IntervalPacker$Packing" "isFirstChunk" "Z") ∈ zx_WS := zx_r1 (List.mem_of_getElem? (i := 88) rfl) rfl
theorem wd_1_90 : (Jvm.Cond.lays "IntervalPacker$Packing" "IntervalPacker$Packing" "isFirstCoded" "Z") ∈ zx_WS := zx_r1 (List.mem_of_getElem? (i := 90) rfl) rfl
theorem wd_1_92 : (Jvm.Cond.lays "IntervalPacker$Packing" "IntervalPacker$Packing" "isBehindPlain" "Z") ∈ zx_WS := zx_r1 (List.mem_of_getElem? (i := 92) rfl) rfl
theorem wd_1_94 : (Jvm.Cond.lays "IntervalPacker$Packing" "IntervalPacker$Packing" "matchLength" "I") ∈ zx_WS := zx_r1 (List.mem_of_getElem? (i := 94) rfl) rfl
theorem wd_1_96 : (Jvm.Cond.lays "IntervalPacker$Packing" "IntervalPacker$Packing" "matchDistance" "I") ∈ zx_WS := zx_r1 (List.mem_of_getElem? (i := 96) rfl) rfl
theorem wd_1_98 : (Jvm.Cond.lays "IntervalPacker$Packing" "IntervalPacker$Packing" "againLength" "I") ∈ zx_WS := zx_r1 (List.mem_of_getElem? (i := 98) rfl) rfl
theorem wd_1_100 : (Jvm.Cond.lays "IntervalPacker$Packing" "IntervalPacker$Packing" "again" "I") ∈ zx_WS := zx_r1 (List.mem_of_getElem? (i := 100) rfl) rfl
theorem zu_Pkg : ∀ w ∈ u_ws "IntervalPacker$Packing" zt_Pkg 17, w ∈ zx_WS := by
  intro w hw
  rcases List.mem_map.mp hw with ⟨k, hk, rfl⟩
  have hk := List.mem_range.mp hk
  match k, hk with
  | 0, _ => exact wd_1_68
  | 1, _ => exact wd_1_70
  | 2, _ => exact wd_1_72
  | 3, _ => exact wd_1_74
  | 4, _ => exact wd_1_76
  | 5, _ => exact wd_1_78
  | 6, _ => exact wd_1_80
  | 7, _ => exact wd_1_82
  | 8, _ => exact wd_1_84
  | 9, _ => exact wd_1_86
  | 10, _ => exact wd_1_88
  | 11, _ => exact wd_1_90
  | 12, _ => exact wd_1_92
  | 13, _ => exact wd_1_94
  | 14, _ => exact wd_1_96
  | 15, _ => exact wd_1_98
  | 16, _ => exact wd_1_100
  | j + 17, h => exact absurd h (by omega)
theorem wd_3_180 : (Jvm.Cond.laysFinal "IntervalPackerModel" "IntervalPackerModel" "plain" "[I") ∈ zx_WS := zx_r3 (List.mem_of_getElem? (i := 180) rfl) rfl
theorem wd_3_182 : (Jvm.Cond.lays "IntervalPackerModel" "IntervalPackerModel" "plainSize" "I") ∈ zx_WS := zx_r3 (List.mem_of_getElem? (i := 182) rfl) rfl
theorem wd_3_184 : (Jvm.Cond.laysFinal "IntervalPackerModel" "IntervalPackerModel" "packed" "[I") ∈ zx_WS := zx_r3 (List.mem_of_getElem? (i := 184) rfl) rfl
theorem wd_3_186 : (Jvm.Cond.lays "IntervalPackerModel" "IntervalPackerModel" "packedSize" "I") ∈ zx_WS := zx_r3 (List.mem_of_getElem? (i := 186) rfl) rfl
theorem wd_3_188 : (Jvm.Cond.laysFinal "IntervalPackerModel" "IntervalPackerModel" "made" "[I") ∈ zx_WS := zx_r3 (List.mem_of_getElem? (i := 188) rfl) rfl
theorem wd_3_190 : (Jvm.Cond.lays "IntervalPackerModel" "IntervalPackerModel" "madeSize" "I") ∈ zx_WS := zx_r3 (List.mem_of_getElem? (i := 190) rfl) rfl
theorem wd_3_192 : (Jvm.Cond.laysFinal "IntervalPackerModel" "IntervalPackerModel" "box" "[I") ∈ zx_WS := zx_r3 (List.mem_of_getElem? (i := 192) rfl) rfl
theorem wd_3_194 : (Jvm.Cond.lays "IntervalPackerModel" "IntervalPackerModel" "boxSize" "I") ∈ zx_WS := zx_r3 (List.mem_of_getElem? (i := 194) rfl) rfl
theorem wd_3_196 : (Jvm.Cond.laysFinal "IntervalPackerModel" "IntervalPackerModel" "chances" "[I") ∈ zx_WS := zx_r3 (List.mem_of_getElem? (i := 196) rfl) rfl
theorem wd_3_198 : (Jvm.Cond.lays "IntervalPackerModel" "IntervalPackerModel" "lc" "I") ∈ zx_WS := zx_r3 (List.mem_of_getElem? (i := 198) rfl) rfl
theorem wd_3_200 : (Jvm.Cond.lays "IntervalPackerModel" "IntervalPackerModel" "lp" "I") ∈ zx_WS := zx_r3 (List.mem_of_getElem? (i := 200) rfl) rfl
theorem wd_3_202 : (Jvm.Cond.lays "IntervalPackerModel" "IntervalPackerModel" "pb" "I") ∈ zx_WS := zx_r3 (List.mem_of_getElem? (i := 202) rfl) rfl
theorem wd_3_204 : (Jvm.Cond.lays "IntervalPackerModel" "IntervalPackerModel" "state" "I") ∈ zx_WS := zx_r3 (List.mem_of_getElem? (i := 204) rfl) rfl
theorem wd_3_206 : (Jvm.Cond.lays "IntervalPackerModel" "IntervalPackerModel" "r0" "J") ∈ zx_WS := zx_r3 (List.mem_of_getElem? (i := 206) rfl) rfl
theorem wd_3_208 : (Jvm.Cond.lays "IntervalPackerModel" "IntervalPackerModel" "r1" "J") ∈ zx_WS := zx_r3 (List.mem_of_getElem? (i := 208) rfl) rfl
theorem wd_3_210 : (Jvm.Cond.lays "IntervalPackerModel" "IntervalPackerModel" "r2" "J") ∈ zx_WS := zx_r3 (List.mem_of_getElem? (i := 210) rfl) rfl
theorem wd_3_212 : (Jvm.Cond.lays "IntervalPackerModel" "IntervalPackerModel" "r3" "J") ∈ zx_WS := zx_r3 (List.mem_of_getElem? (i := 212) rfl) rfl
theorem wd_3_214 : (Jvm.Cond.lays "IntervalPackerModel" "IntervalPackerModel" "range" "J") ∈ zx_WS := zx_r3 (List.mem_of_getElem? (i := 214) rfl) rfl
theorem wd_3_216 : (Jvm.Cond.lays "IntervalPackerModel" "IntervalPackerModel" "code" "J") ∈ zx_WS := zx_r3 (List.mem_of_getElem? (i := 216) rfl) rfl
theorem wd_3_218 : (Jvm.Cond.lays "IntervalPackerModel" "IntervalPackerModel" "next" "I") ∈ zx_WS := zx_r3 (List.mem_of_getElem? (i := 218) rfl) rfl
theorem wd_3_220 : (Jvm.Cond.lays "IntervalPackerModel" "IntervalPackerModel" "end" "I") ∈ zx_WS := zx_r3 (List.mem_of_getElem? (i := 220) rfl) rfl
theorem wd_3_222 : (Jvm.Cond.lays "IntervalPackerModel" "IntervalPackerModel" "left" "I") ∈ zx_WS := zx_r3 (List.mem_of_getElem? (i := 222) rfl) rfl
theorem wd_3_224 : (Jvm.Cond.lays "IntervalPackerModel" "IntervalPackerModel" "bad" "Z") ∈ zx_WS := zx_r3 (List.mem_of_getElem? (i := 224) rfl) rfl
theorem wd_3_226 : (Jvm.Cond.lays "IntervalPackerModel" "IntervalPackerModel" "first" "I") ∈ zx_WS := zx_r3 (List.mem_of_getElem? (i := 226) rfl) rfl
theorem wd_3_228 : (Jvm.Cond.laysFinal "IntervalPackerModel" "IntervalPackerModel" "low" "[I") ∈ zx_WS := zx_r3 (List.mem_of_getElem? (i := 228) rfl) rfl
theorem wd_3_230 : (Jvm.Cond.lays "IntervalPackerModel" "IntervalPackerModel" "lowSize" "I") ∈ zx_WS := zx_r3 (List.mem_of_getElem? (i := 230) rfl) rfl
theorem wd_3_232 : (Jvm.Cond.lays "IntervalPackerModel" "IntervalPackerModel" "limit" "I") ∈ zx_WS := zx_r3 (List.mem_of_getElem? (i := 232) rfl) rfl
theorem wd_3_234 : (Jvm.Cond.lays "IntervalPackerModel" "IntervalPackerModel" "lost" "Z") ∈ zx_WS := zx_r3 (List.mem_of_getElem? (i := 234) rfl) rfl
theorem wd_3_236 : (Jvm.Cond.lays "IntervalPackerModel" "IntervalPackerModel" "at" "I") ∈ zx_WS := zx_r3 (List.mem_of_getElem? (i := 236) rfl) rfl
theorem wd_3_238 : (Jvm.Cond.lays "IntervalPackerModel" "IntervalPackerModel" "fault" "I") ∈ zx_WS := zx_r3 (List.mem_of_getElem? (i := 238) rfl) rfl
theorem wd_4_0 : (Jvm.Cond.lays "IntervalPackerModel" "IntervalPackerModel" "faultAt" "I") ∈ zx_WS := zx_r4 (List.mem_of_getElem? (i := 0) rfl) rfl
theorem wd_4_2 : (Jvm.Cond.lays "IntervalPackerModel" "IntervalPackerModel" "sort" "I") ∈ zx_WS := zx_r4 (List.mem_of_getElem? (i := 2) rfl) rfl
theorem wd_4_4 : (Jvm.Cond.lays "IntervalPackerModel" "IntervalPackerModel" "blocks" "I") ∈ zx_WS := zx_r4 (List.mem_of_getElem? (i := 4) rfl) rfl
theorem wd_4_6 : (Jvm.Cond.laysFinal "IntervalPackerModel" "IntervalPackerModel" "sizes" "[I") ∈ zx_WS := zx_r4 (List.mem_of_getElem? (i := 6) rfl) rfl
theorem wd_4_8 : (Jvm.Cond.laysFinal "IntervalPackerModel" "IntervalPackerModel" "gives" "[I") ∈ zx_WS := zx_r4 (List.mem_of_getElem? (i := 8) rfl) rfl
theorem wd_4_10 : (Jvm.Cond.lays "IntervalPackerModel" "IntervalPackerModel" "emptied" "Z") ∈ zx_WS := zx_r4 (List.mem_of_getElem? (i := 10) rfl) rfl
theorem wd_4_12 : (Jvm.Cond.lays "IntervalPackerModel" "IntervalPackerModel" "bare" "Z") ∈ zx_WS := zx_r4 (List.mem_of_getElem? (i := 12) rfl) rfl
theorem wd_4_14 : (Jvm.Cond.lays "IntervalPackerModel" "IntervalPackerModel" "watched" "I") ∈ zx_WS := zx_r4 (List.mem_of_getElem? (i := 14) rfl) rfl
theorem wd_4_16 : (Jvm.Cond.lays "IntervalPackerModel" "IntervalPackerModel" "looked" "I") ∈ zx_WS := zx_r4 (List.mem_of_getElem? (i := 16) rfl) rfl
theorem wd_4_18 : (Jvm.Cond.lays "IntervalPackerModel" "IntervalPackerModel" "keptRange" "J") ∈ zx_WS := zx_r4 (List.mem_of_getElem? (i := 18) rfl) rfl
theorem wd_4_20 : (Jvm.Cond.lays "IntervalPackerModel" "IntervalPackerModel" "keptCode" "J") ∈ zx_WS := zx_r4 (List.mem_of_getElem? (i := 20) rfl) rfl
theorem wd_4_22 : (Jvm.Cond.laysFinal "IntervalPackerModel" "IntervalPackerModel" "counts" "[I") ∈ zx_WS := zx_r4 (List.mem_of_getElem? (i := 22) rfl) rfl
theorem zu_R : ∀ w ∈ u_ws "IntervalPackerModel" zt_R 42, w ∈ zx_WS := by
  intro w hw
  rcases List.mem_map.mp hw with ⟨k, hk, rfl⟩
  have hk := List.mem_range.mp hk
  match k, hk with
  | 0, _ => exact wd_3_180
  | 1, _ => exact wd_3_182
  | 2, _ => exact wd_3_184
  | 3, _ => exact wd_3_186
  | 4, _ => exact wd_3_188
  | 5, _ => exact wd_3_190
  | 6, _ => exact wd_3_192
  | 7, _ => exact wd_3_194
  | 8, _ => exact wd_3_196
  | 9, _ => exact wd_3_198
  | 10, _ => exact wd_3_200
  | 11, _ => exact wd_3_202
  | 12, _ => exact wd_3_204
  | 13, _ => exact wd_3_206
  | 14, _ => exact wd_3_208
  | 15, _ => exact wd_3_210
  | 16, _ => exact wd_3_212
  | 17, _ => exact wd_3_214
  | 18, _ => exact wd_3_216
  | 19, _ => exact wd_3_218
  | 20, _ => exact wd_3_220
  | 21, _ => exact wd_3_222
  | 22, _ => exact wd_3_224
  | 23, _ => exact wd_3_226
  | 24, _ => exact wd_3_228
  | 25, _ => exact wd_3_230
  | 26, _ => exact wd_3_232
  | 27, _ => exact wd_3_234
  | 28, _ => exact wd_3_236
  | 29, _ => exact wd_3_238
  | 30, _ => exact wd_4_0
  | 31, _ => exact wd_4_2
  | 32, _ => exact wd_4_4
  | 33, _ => exact wd_4_6
  | 34, _ => exact wd_4_8
  | 35, _ => exact wd_4_10
  | 36, _ => exact wd_4_12
  | 37, _ => exact wd_4_14
  | 38, _ => exact wd_4_16
  | 39, _ => exact wd_4_18
  | 40, _ => exact wd_4_20
  | 41, _ => exact wd_4_22
  | j + 42, h => exact absurd h (by omega)
theorem wd_1_192 : (Jvm.Cond.constantLong "IntervalPacker" (185 : Nat) (4294967295 : Int64)) ∈ zx_WS := zx_r1 (List.mem_of_getElem? (i := 192) rfl) rfl
theorem wd_1_193 : (Jvm.Cond.constantLong "IntervalPacker" (187 : Nat) (3988292384 : Int64)) ∈ zx_WS := zx_r1 (List.mem_of_getElem? (i := 193) rfl) rfl
theorem wd_2_152 : (Jvm.Cond.constantLong "IntervalPacker" (193 : Nat) (-1 : Int64)) ∈ zx_WS := zx_r2 (List.mem_of_getElem? (i := 152) rfl) rfl
theorem wd_2_153 : (Jvm.Cond.constantLong "IntervalPacker" (195 : Nat) (-3932672073523589310 : Int64)) ∈ zx_WS := zx_r2 (List.mem_of_getElem? (i := 153) rfl) rfl
theorem wd_3_6 : (Jvm.Cond.constantLong "IntervalPacker$Cursor" (60 : Nat) (-1 : Int64)) ∈ zx_WS := zx_r3 (List.mem_of_getElem? (i := 6) rfl) rfl
theorem wd_0_60 : (Jvm.Cond.constantLong "IntervalPacker$BitSource" (9 : Nat) (-1 : Int64)) ∈ zx_WS := zx_r0 (List.mem_of_getElem? (i := 60) rfl) rfl
theorem wd_3_60 : (Jvm.Cond.constantLong "IntervalPacker$BitSource" (34 : Nat) (4294967295 : Int64)) ∈ zx_WS := zx_r3 (List.mem_of_getElem? (i := 60) rfl) rfl
theorem wd_2_64 : (Jvm.Cond.constantLong "IntervalPacker$BitSource" (49 : Nat) (16777216 : Int64)) ∈ zx_WS := zx_r2 (List.mem_of_getElem? (i := 64) rfl) rfl
theorem wd_1_221 : (Jvm.Cond.constantLong "IntervalPacker$BitSink" (32 : Nat) (4294967295 : Int64)) ∈ zx_WS := zx_r1 (List.mem_of_getElem? (i := 221) rfl) rfl
theorem wd_2_46 : (Jvm.Cond.constantLong "IntervalPacker$BitSink" (44 : Nat) (16777216 : Int64)) ∈ zx_WS := zx_r2 (List.mem_of_getElem? (i := 46) rfl) rfl
theorem wd_2_100 : (Jvm.Cond.constantLong "IntervalPacker$Model" (95 : Nat) (2 : Int64)) ∈ zx_WS := zx_r2 (List.mem_of_getElem? (i := 100) rfl) rfl
theorem wd_2_114 : (Jvm.Cond.constantLong "IntervalPacker$Model" (103 : Nat) (16 : Int64)) ∈ zx_WS := zx_r2 (List.mem_of_getElem? (i := 114) rfl) rfl
theorem wd_2_92 : (Jvm.Cond.constantLong "IntervalPacker$Model" (105 : Nat) (4 : Int64)) ∈ zx_WS := zx_r2 (List.mem_of_getElem? (i := 92) rfl) rfl
theorem wd_3_1 : (Jvm.Cond.constantLong "IntervalPacker$Unpacking" (153 : Nat) (-1 : Int64)) ∈ zx_WS := zx_r3 (List.mem_of_getElem? (i := 1) rfl) rfl
theorem wd_2_162 : (Jvm.Cond.constantLong "IntervalPacker$Packing" (198 : Nat) (128 : Int64)) ∈ zx_WS := zx_r2 (List.mem_of_getElem? (i := 162) rfl) rfl
theorem wd_2_163 : (Jvm.Cond.constantLong "IntervalPacker$Packing" (200 : Nat) (127 : Int64)) ∈ zx_WS := zx_r2 (List.mem_of_getElem? (i := 163) rfl) rfl
theorem wd_3_137 : (Jvm.Cond.constantLong "IntervalPackerModel" (38 : Nat) (-1 : Int64)) ∈ zx_WS := zx_r3 (List.mem_of_getElem? (i := 137) rfl) rfl
theorem wd_4_29 : (Jvm.Cond.constantLong "IntervalPackerModel" (56 : Nat) (255 : Int64)) ∈ zx_WS := zx_r4 (List.mem_of_getElem? (i := 29) rfl) rfl
theorem wd_4_58 : (Jvm.Cond.constantLong "IntervalPackerModel" (58 : Nat) (3988292384 : Int64)) ∈ zx_WS := zx_r4 (List.mem_of_getElem? (i := 58) rfl) rfl
theorem wd_4_54 : (Jvm.Cond.constantLong "IntervalPackerModel" (60 : Nat) (-3932672073523589310 : Int64)) ∈ zx_WS := zx_r4 (List.mem_of_getElem? (i := 54) rfl) rfl
theorem wd_4_50 : (Jvm.Cond.constantLong "IntervalPackerModel" (62 : Nat) (4294967295 : Int64)) ∈ zx_WS := zx_r4 (List.mem_of_getElem? (i := 50) rfl) rfl
theorem wd_4_152 : (Jvm.Cond.constantLong "IntervalPackerModel" (228 : Nat) (16777216 : Int64)) ∈ zx_WS := zx_r4 (List.mem_of_getElem? (i := 152) rfl) rfl
theorem wd_4_153 : (Jvm.Cond.constantLong "IntervalPackerModel" (230 : Nat) (256 : Int64)) ∈ zx_WS := zx_r4 (List.mem_of_getElem? (i := 153) rfl) rfl
theorem wd_4_154 : (Jvm.Cond.constantLong "IntervalPackerModel" (232 : Nat) (2048 : Int64)) ∈ zx_WS := zx_r4 (List.mem_of_getElem? (i := 154) rfl) rfl
theorem wd_4_190 : (Jvm.Cond.constantLong "IntervalPackerModel" (240 : Nat) (2 : Int64)) ∈ zx_WS := zx_r4 (List.mem_of_getElem? (i := 190) rfl) rfl
theorem wd_4_191 : (Jvm.Cond.constantLong "IntervalPackerModel" (277 : Nat) (3 : Int64)) ∈ zx_WS := zx_r4 (List.mem_of_getElem? (i := 191) rfl) rfl
theorem wd_4_200 : (Jvm.Cond.constantLong "IntervalPackerModel" (285 : Nat) (16 : Int64)) ∈ zx_WS := zx_r4 (List.mem_of_getElem? (i := 200) rfl) rfl
def zx_ctab : List (Nat × Nat × Int64) := [(0, 185, 4294967295), (0, 187, 3988292384), (0, 193, -1), (0, 195, -3932672073523589310), (2, 60, -1), (3, 9, -1), (3, 34, 4294967295), (3, 49, 16777216), (4, 32, 4294967295), (4, 44, 16777216), (5, 95, 2), (5, 103, 16), (5, 105, 4), (6, 153, -1), (7, 198, 128), (7, 200, 127), (8, 38, -1), (8, 56, 255), (8, 58, 3988292384), (8, 60, -3932672073523589310), (8, 62, 4294967295), (8, 228, 16777216), (8, 230, 256), (8, 232, 2048), (8, 240, 2), (8, 277, 3), (8, 285, 16)]
theorem zx_ctab_g0 : ∀ q ∈ ([(0, 185, 4294967295), (0, 187, 3988292384), (0, 193, -1), (0, 195, -3932672073523589310), (2, 60, -1), (3, 9, -1), (3, 34, 4294967295), (3, 49, 16777216), (4, 32, 4294967295), (4, 44, 16777216), (5, 95, 2), (5, 103, 16), (5, 105, 4), (6, 153, -1), (7, 198, 128), (7, 200, 127)] : List (Nat × Nat × Int64)), Cond.constantLong (zx_on q.1) q.2.1 q.2.2 ∈ zx_WS := List.forall_mem_cons.mpr ⟨wd_1_192, List.forall_mem_cons.mpr ⟨wd_1_193, List.forall_mem_cons.mpr ⟨wd_2_152, List.forall_mem_cons.mpr ⟨wd_2_153, List.forall_mem_cons.mpr ⟨wd_3_6, List.forall_mem_cons.mpr ⟨wd_0_60, List.forall_mem_cons.mpr ⟨wd_3_60, List.forall_mem_cons.mpr ⟨wd_2_64, List.forall_mem_cons.mpr ⟨wd_1_221, List.forall_mem_cons.mpr ⟨wd_2_46, List.forall_mem_cons.mpr ⟨wd_2_100, List.forall_mem_cons.mpr ⟨wd_2_114, List.forall_mem_cons.mpr ⟨wd_2_92, List.forall_mem_cons.mpr ⟨wd_3_1, List.forall_mem_cons.mpr ⟨wd_2_162, List.forall_mem_cons.mpr ⟨wd_2_163, fun _ h => absurd h List.not_mem_nil⟩⟩⟩⟩⟩⟩⟩⟩⟩⟩⟩⟩⟩⟩⟩⟩
theorem zx_ctab_g1 : ∀ q ∈ ([(8, 38, -1), (8, 56, 255), (8, 58, 3988292384), (8, 60, -3932672073523589310), (8, 62, 4294967295), (8, 228, 16777216), (8, 230, 256), (8, 232, 2048), (8, 240, 2), (8, 277, 3), (8, 285, 16)] : List (Nat × Nat × Int64)), Cond.constantLong (zx_on q.1) q.2.1 q.2.2 ∈ zx_WS := List.forall_mem_cons.mpr ⟨wd_3_137, List.forall_mem_cons.mpr ⟨wd_4_29, List.forall_mem_cons.mpr ⟨wd_4_58, List.forall_mem_cons.mpr ⟨wd_4_54, List.forall_mem_cons.mpr ⟨wd_4_50, List.forall_mem_cons.mpr ⟨wd_4_152, List.forall_mem_cons.mpr ⟨wd_4_153, List.forall_mem_cons.mpr ⟨wd_4_154, List.forall_mem_cons.mpr ⟨wd_4_190, List.forall_mem_cons.mpr ⟨wd_4_191, List.forall_mem_cons.mpr ⟨wd_4_200, fun _ h => absurd h List.not_mem_nil⟩⟩⟩⟩⟩⟩⟩⟩⟩⟩⟩
theorem zx_ctab_ok : ∀ q ∈ zx_ctab, Cond.constantLong (zx_on q.1) q.2.1 q.2.2 ∈ zx_WS := List.forall_mem_append.mpr ⟨zx_ctab_g0, zx_ctab_g1⟩
theorem wd_2_99 : (Jvm.Cond.constant "java/lang/Integer" (264 : Nat) (65536 : Int32)) ∈ zx_WS := zx_r2 (List.mem_of_getElem? (i := 99) rfl) rfl
def zx_itab : List (Nat × Nat × Int32) := [(12, 264, 65536)]
theorem zx_itab_g0 : ∀ q ∈ ([(12, 264, 65536)] : List (Nat × Nat × Int32)), Cond.constant (zx_on q.1) q.2.1 q.2.2 ∈ zx_WS := List.forall_mem_cons.mpr ⟨wd_2_99, fun _ h => absurd h List.not_mem_nil⟩
theorem zx_itab_ok : ∀ q ∈ zx_itab, Cond.constant (zx_on q.1) q.2.1 q.2.2 ∈ zx_WS := zx_itab_g0
def zx_fOK (o idx ci k : Nat) : Prop := ∃ (C : String) (T : u_T) (N : Nat) (ref : String), zx_cl[ci]? = some (C, T, N) ∧ k < N ∧ Cond.fieldLink (zx_on o) idx ref (T k).2.1 (T k).2.2.1 ∈ zx_WS ∧ (∀ w ∈ u_ws C T N, w ∈ zx_WS) ∧ (ref = (T k).1 ∨ Cond.sameField ref (T k).1 (T k).2.1 (T k).2.2.1 ∈ zx_WS)
theorem wd_1_103 : (Jvm.Cond.fieldLink "IntervalPacker" (14 : Nat) "IntervalPacker" "plain" "LIntervalPacker$Row;") ∈ zx_WS := zx_r1 (List.mem_of_getElem? (i := 103) rfl) rfl
theorem fo_0_14_0 : zx_fOK 0 14 0 0 := ⟨"IntervalPacker", zt_P, 5, "IntervalPacker", rfl, by decide, wd_1_103, zu_P, Or.inl rfl⟩
theorem wd_1_104 : (Jvm.Cond.fieldLink "IntervalPacker" (18 : Nat) "IntervalPacker" "packed" "LIntervalPacker$Row;") ∈ zx_WS := zx_r1 (List.mem_of_getElem? (i := 104) rfl) rfl
theorem fo_0_18_0 : zx_fOK 0 18 0 1 := ⟨"IntervalPacker", zt_P, 5, "IntervalPacker", rfl, by decide, wd_1_104, zu_P, Or.inl rfl⟩
theorem wd_1_105 : (Jvm.Cond.fieldLink "IntervalPacker" (26 : Nat) "IntervalPacker" "source" "LIntervalPacker$BitSource;") ∈ zx_WS := zx_r1 (List.mem_of_getElem? (i := 105) rfl) rfl
theorem fo_0_26_0 : zx_fOK 0 26 0 2 := ⟨"IntervalPacker", zt_P, 5, "IntervalPacker", rfl, by decide, wd_1_105, zu_P, Or.inl rfl⟩
theorem wd_1_106 : (Jvm.Cond.fieldLink "IntervalPacker" (40 : Nat) "IntervalPacker" "reader" "LIntervalPacker$Unpacking;") ∈ zx_WS := zx_r1 (List.mem_of_getElem? (i := 106) rfl) rfl
theorem fo_0_40_0 : zx_fOK 0 40 0 3 := ⟨"IntervalPacker", zt_P, 5, "IntervalPacker", rfl, by decide, wd_1_106, zu_P, Or.inl rfl⟩
theorem wd_1_107 : (Jvm.Cond.fieldLink "IntervalPacker" (52 : Nat) "IntervalPacker" "writer" "LIntervalPacker$Packing;") ∈ zx_WS := zx_r1 (List.mem_of_getElem? (i := 107) rfl) rfl
theorem fo_0_52_0 : zx_fOK 0 52 0 4 := ⟨"IntervalPacker", zt_P, 5, "IntervalPacker", rfl, by decide, wd_1_107, zu_P, Or.inl rfl⟩
theorem wd_0_37 : (Jvm.Cond.fieldLink "IntervalPacker" (67 : Nat) "IntervalPacker$Row" "size" "I") ∈ zx_WS := zx_r0 (List.mem_of_getElem? (i := 37) rfl) rfl
theorem fo_0_67_1 : zx_fOK 0 67 1 1 := ⟨"IntervalPacker$Row", zt_Row, 3, "IntervalPacker$Row", rfl, by decide, wd_0_37, zu_Row, Or.inl rfl⟩
theorem wd_0_33 : (Jvm.Cond.fieldLink "IntervalPacker" (79 : Nat) "IntervalPacker$Row" "bytes" "[I") ∈ zx_WS := zx_r0 (List.mem_of_getElem? (i := 33) rfl) rfl
theorem fo_0_79_1 : zx_fOK 0 79 1 0 := ⟨"IntervalPacker$Row", zt_Row, 3, "IntervalPacker$Row", rfl, by decide, wd_0_33, zu_Row, Or.inl rfl⟩
theorem wd_1_51 : (Jvm.Cond.fieldLink "IntervalPacker" (115 : Nat) "IntervalPacker$Packing" "draft" "LIntervalPacker$Row;") ∈ zx_WS := zx_r1 (List.mem_of_getElem? (i := 51) rfl) rfl
theorem fo_0_115_7 : zx_fOK 0 115 7 0 := ⟨"IntervalPacker$Packing", zt_Pkg, 17, "IntervalPacker$Packing", rfl, by decide, wd_1_51, zu_Pkg, Or.inl rfl⟩
theorem wd_0_42 : (Jvm.Cond.fieldLink "IntervalPacker" (118 : Nat) "IntervalPacker$Row" "overfull" "Z") ∈ zx_WS := zx_r0 (List.mem_of_getElem? (i := 42) rfl) rfl
theorem fo_0_118_1 : zx_fOK 0 118 1 2 := ⟨"IntervalPacker$Row", zt_Row, 3, "IntervalPacker$Row", rfl, by decide, wd_0_42, zu_Row, Or.inl rfl⟩
theorem wd_0_203 : (Jvm.Cond.fieldLink "IntervalPacker" (144 : Nat) "IntervalPacker$Unpacking" "cursor" "LIntervalPacker$Cursor;") ∈ zx_WS := zx_r0 (List.mem_of_getElem? (i := 203) rfl) rfl
theorem fo_0_144_6 : zx_fOK 0 144 6 1 := ⟨"IntervalPacker$Unpacking", zt_Unp, 19, "IntervalPacker$Unpacking", rfl, by decide, wd_0_203, zu_Unp, Or.inl rfl⟩
theorem wd_0_184 : (Jvm.Cond.fieldLink "IntervalPacker" (153 : Nat) "IntervalPacker$Cursor" "fault" "I") ∈ zx_WS := zx_r0 (List.mem_of_getElem? (i := 184) rfl) rfl
theorem fo_0_153_2 : zx_fOK 0 153 2 4 := ⟨"IntervalPacker$Cursor", zt_Cur, 6, "IntervalPacker$Cursor", rfl, by decide, wd_0_184, zu_Cur, Or.inl rfl⟩
theorem wd_0_201 : (Jvm.Cond.fieldLink "IntervalPacker" (156 : Nat) "IntervalPacker$Unpacking" "given" "LIntervalPacker$Row;") ∈ zx_WS := zx_r0 (List.mem_of_getElem? (i := 201) rfl) rfl
theorem fo_0_156_6 : zx_fOK 0 156 6 0 := ⟨"IntervalPacker$Unpacking", zt_Unp, 19, "IntervalPacker$Unpacking", rfl, by decide, wd_0_201, zu_Unp, Or.inl rfl⟩
theorem wd_0_186 : (Jvm.Cond.fieldLink "IntervalPacker" (159 : Nat) "IntervalPacker$Cursor" "place" "I") ∈ zx_WS := zx_r0 (List.mem_of_getElem? (i := 186) rfl) rfl
theorem fo_0_159_2 : zx_fOK 0 159 2 5 := ⟨"IntervalPacker$Cursor", zt_Cur, 6, "IntervalPacker$Cursor", rfl, by decide, wd_0_186, zu_Cur, Or.inl rfl⟩
theorem wd_0_69 : (Jvm.Cond.fieldLink "IntervalPacker" (162 : Nat) "IntervalPacker$BitSource" "watched" "I") ∈ zx_WS := zx_r0 (List.mem_of_getElem? (i := 69) rfl) rfl
theorem fo_0_162_3 : zx_fOK 0 162 3 9 := ⟨"IntervalPacker$BitSource", zt_Src, 12, "IntervalPacker$BitSource", rfl, by decide, wd_0_69, zu_Src, Or.inl rfl⟩
theorem wd_0_71 : (Jvm.Cond.fieldLink "IntervalPacker" (165 : Nat) "IntervalPacker$BitSource" "keptRange" "J") ∈ zx_WS := zx_r0 (List.mem_of_getElem? (i := 71) rfl) rfl
theorem fo_0_165_3 : zx_fOK 0 165 3 10 := ⟨"IntervalPacker$BitSource", zt_Src, 12, "IntervalPacker$BitSource", rfl, by decide, wd_0_71, zu_Src, Or.inl rfl⟩
theorem wd_0_73 : (Jvm.Cond.fieldLink "IntervalPacker" (169 : Nat) "IntervalPacker$BitSource" "keptCode" "J") ∈ zx_WS := zx_r0 (List.mem_of_getElem? (i := 73) rfl) rfl
theorem fo_0_169_3 : zx_fOK 0 169 3 11 := ⟨"IntervalPacker$BitSource", zt_Src, 12, "IntervalPacker$BitSource", rfl, by decide, wd_0_73, zu_Src, Or.inl rfl⟩
theorem wd_0_67 : (Jvm.Cond.fieldLink "IntervalPacker" (172 : Nat) "IntervalPacker$BitSource" "taken" "I") ∈ zx_WS := zx_r0 (List.mem_of_getElem? (i := 67) rfl) rfl
theorem fo_0_172_3 : zx_fOK 0 172 3 8 := ⟨"IntervalPacker$BitSource", zt_Src, 12, "IntervalPacker$BitSource", rfl, by decide, wd_0_67, zu_Src, Or.inl rfl⟩
theorem wd_0_205 : (Jvm.Cond.fieldLink "IntervalPacker" (175 : Nat) "IntervalPacker$Unpacking" "counts" "[I") ∈ zx_WS := zx_r0 (List.mem_of_getElem? (i := 205) rfl) rfl
theorem fo_0_175_6 : zx_fOK 0 175 6 2 := ⟨"IntervalPacker$Unpacking", zt_Unp, 19, "IntervalPacker$Unpacking", rfl, by decide, wd_0_205, zu_Unp, Or.inl rfl⟩
theorem wd_0_30 : (Jvm.Cond.fieldLink "IntervalPacker$Row" (9 : Nat) "IntervalPacker$Row" "bytes" "[I") ∈ zx_WS := zx_r0 (List.mem_of_getElem? (i := 30) rfl) rfl
theorem fo_1_9_1 : zx_fOK 1 9 1 0 := ⟨"IntervalPacker$Row", zt_Row, 3, "IntervalPacker$Row", rfl, by decide, wd_0_30, zu_Row, Or.inl rfl⟩
theorem wd_0_35 : (Jvm.Cond.fieldLink "IntervalPacker$Row" (15 : Nat) "IntervalPacker$Row" "size" "I") ∈ zx_WS := zx_r0 (List.mem_of_getElem? (i := 35) rfl) rfl
theorem fo_1_15_1 : zx_fOK 1 15 1 1 := ⟨"IntervalPacker$Row", zt_Row, 3, "IntervalPacker$Row", rfl, by decide, wd_0_35, zu_Row, Or.inl rfl⟩
theorem wd_0_40 : (Jvm.Cond.fieldLink "IntervalPacker$Row" (19 : Nat) "IntervalPacker$Row" "overfull" "Z") ∈ zx_WS := zx_r0 (List.mem_of_getElem? (i := 40) rfl) rfl
theorem fo_1_19_1 : zx_fOK 1 19 1 2 := ⟨"IntervalPacker$Row", zt_Row, 3, "IntervalPacker$Row", rfl, by decide, wd_0_40, zu_Row, Or.inl rfl⟩
theorem wd_0_176 : (Jvm.Cond.fieldLink "IntervalPacker$Cursor" (9 : Nat) "IntervalPacker$Cursor" "bytes" "[I") ∈ zx_WS := zx_r0 (List.mem_of_getElem? (i := 176) rfl) rfl
theorem fo_2_9_2 : zx_fOK 2 9 2 0 := ⟨"IntervalPacker$Cursor", zt_Cur, 6, "IntervalPacker$Cursor", rfl, by decide, wd_0_176, zu_Cur, Or.inl rfl⟩
theorem wd_0_185 : (Jvm.Cond.fieldLink "IntervalPacker$Cursor" (15 : Nat) "IntervalPacker$Cursor" "place" "I") ∈ zx_WS := zx_r0 (List.mem_of_getElem? (i := 185) rfl) rfl
theorem fo_2_15_2 : zx_fOK 2 15 2 5 := ⟨"IntervalPacker$Cursor", zt_Cur, 6, "IntervalPacker$Cursor", rfl, by decide, wd_0_185, zu_Cur, Or.inl rfl⟩
theorem wd_0_31 : (Jvm.Cond.fieldLink "IntervalPacker$Cursor" (19 : Nat) "IntervalPacker$Row" "bytes" "[I") ∈ zx_WS := zx_r0 (List.mem_of_getElem? (i := 31) rfl) rfl
theorem fo_2_19_1 : zx_fOK 2 19 1 0 := ⟨"IntervalPacker$Row", zt_Row, 3, "IntervalPacker$Row", rfl, by decide, wd_0_31, zu_Row, Or.inl rfl⟩
theorem wd_0_36 : (Jvm.Cond.fieldLink "IntervalPacker$Cursor" (22 : Nat) "IntervalPacker$Row" "size" "I") ∈ zx_WS := zx_r0 (List.mem_of_getElem? (i := 36) rfl) rfl
theorem fo_2_22_1 : zx_fOK 2 22 1 1 := ⟨"IntervalPacker$Row", zt_Row, 3, "IntervalPacker$Row", rfl, by decide, wd_0_36, zu_Row, Or.inl rfl⟩
theorem wd_0_178 : (Jvm.Cond.fieldLink "IntervalPacker$Cursor" (25 : Nat) "IntervalPacker$Cursor" "size" "I") ∈ zx_WS := zx_r0 (List.mem_of_getElem? (i := 178) rfl) rfl
theorem fo_2_25_2 : zx_fOK 2 25 2 1 := ⟨"IntervalPacker$Cursor", zt_Cur, 6, "IntervalPacker$Cursor", rfl, by decide, wd_0_178, zu_Cur, Or.inl rfl⟩
theorem wd_0_180 : (Jvm.Cond.fieldLink "IntervalPacker$Cursor" (26 : Nat) "IntervalPacker$Cursor" "end" "I") ∈ zx_WS := zx_r0 (List.mem_of_getElem? (i := 180) rfl) rfl
theorem fo_2_26_2 : zx_fOK 2 26 2 2 := ⟨"IntervalPacker$Cursor", zt_Cur, 6, "IntervalPacker$Cursor", rfl, by decide, wd_0_180, zu_Cur, Or.inl rfl⟩
theorem wd_0_181 : (Jvm.Cond.fieldLink "IntervalPacker$Cursor" (29 : Nat) "IntervalPacker$Cursor" "next" "I") ∈ zx_WS := zx_r0 (List.mem_of_getElem? (i := 181) rfl) rfl
theorem fo_2_29_2 : zx_fOK 2 29 2 3 := ⟨"IntervalPacker$Cursor", zt_Cur, 6, "IntervalPacker$Cursor", rfl, by decide, wd_0_181, zu_Cur, Or.inl rfl⟩
theorem wd_0_183 : (Jvm.Cond.fieldLink "IntervalPacker$Cursor" (32 : Nat) "IntervalPacker$Cursor" "fault" "I") ∈ zx_WS := zx_r0 (List.mem_of_getElem? (i := 183) rfl) rfl
theorem fo_2_32_2 : zx_fOK 2 32 2 4 := ⟨"IntervalPacker$Cursor", zt_Cur, 6, "IntervalPacker$Cursor", rfl, by decide, wd_0_183, zu_Cur, Or.inl rfl⟩
theorem wd_0_70 : (Jvm.Cond.fieldLink "IntervalPacker$BitSource" (11 : Nat) "IntervalPacker$BitSource" "keptRange" "J") ∈ zx_WS := zx_r0 (List.mem_of_getElem? (i := 70) rfl) rfl
theorem fo_3_11_3 : zx_fOK 3 11 3 10 := ⟨"IntervalPacker$BitSource", zt_Src, 12, "IntervalPacker$BitSource", rfl, by decide, wd_0_70, zu_Src, Or.inl rfl⟩
theorem wd_0_72 : (Jvm.Cond.fieldLink "IntervalPacker$BitSource" (17 : Nat) "IntervalPacker$BitSource" "keptCode" "J") ∈ zx_WS := zx_r0 (List.mem_of_getElem? (i := 72) rfl) rfl
theorem fo_3_17_3 : zx_fOK 3 17 3 11 := ⟨"IntervalPacker$BitSource", zt_Src, 12, "IntervalPacker$BitSource", rfl, by decide, wd_0_72, zu_Src, Or.inl rfl⟩
theorem wd_0_61 : (Jvm.Cond.fieldLink "IntervalPacker$BitSource" (20 : Nat) "IntervalPacker$BitSource" "data" "[I") ∈ zx_WS := zx_r0 (List.mem_of_getElem? (i := 61) rfl) rfl
theorem fo_3_20_3 : zx_fOK 3 20 3 3 := ⟨"IntervalPacker$BitSource", zt_Src, 12, "IntervalPacker$BitSource", rfl, by decide, wd_0_61, zu_Src, Or.inl rfl⟩
theorem wd_0_66 : (Jvm.Cond.fieldLink "IntervalPacker$BitSource" (24 : Nat) "IntervalPacker$BitSource" "taken" "I") ∈ zx_WS := zx_r0 (List.mem_of_getElem? (i := 66) rfl) rfl
theorem fo_3_24_3 : zx_fOK 3 24 3 8 := ⟨"IntervalPacker$BitSource", zt_Src, 12, "IntervalPacker$BitSource", rfl, by decide, wd_0_66, zu_Src, Or.inl rfl⟩
theorem wd_0_62 : (Jvm.Cond.fieldLink "IntervalPacker$BitSource" (28 : Nat) "IntervalPacker$BitSource" "next" "I") ∈ zx_WS := zx_r0 (List.mem_of_getElem? (i := 62) rfl) rfl
theorem fo_3_28_3 : zx_fOK 3 28 3 4 := ⟨"IntervalPacker$BitSource", zt_Src, 12, "IntervalPacker$BitSource", rfl, by decide, wd_0_62, zu_Src, Or.inl rfl⟩
theorem wd_0_63 : (Jvm.Cond.fieldLink "IntervalPacker$BitSource" (31 : Nat) "IntervalPacker$BitSource" "end" "I") ∈ zx_WS := zx_r0 (List.mem_of_getElem? (i := 63) rfl) rfl
theorem fo_3_31_3 : zx_fOK 3 31 3 5 := ⟨"IntervalPacker$BitSource", zt_Src, 12, "IntervalPacker$BitSource", rfl, by decide, wd_0_63, zu_Src, Or.inl rfl⟩
theorem wd_0_82 : (Jvm.Cond.sameField "IntervalPacker$BitSource" "IntervalPacker$BitLine" "range" "J") ∈ zx_WS := zx_r0 (List.mem_of_getElem? (i := 82) rfl) rfl
theorem wd_0_81 : (Jvm.Cond.fieldLink "IntervalPacker$BitSource" (36 : Nat) "IntervalPacker$BitSource" "range" "J") ∈ zx_WS := zx_r0 (List.mem_of_getElem? (i := 81) rfl) rfl
theorem fo_3_36_3 : zx_fOK 3 36 3 1 := ⟨"IntervalPacker$BitSource", zt_Src, 12, "IntervalPacker$BitSource", rfl, by decide, wd_0_81, zu_Src, Or.inr wd_0_82⟩
theorem wd_0_64 : (Jvm.Cond.fieldLink "IntervalPacker$BitSource" (39 : Nat) "IntervalPacker$BitSource" "codeNow" "J") ∈ zx_WS := zx_r0 (List.mem_of_getElem? (i := 64) rfl) rfl
theorem fo_3_39_3 : zx_fOK 3 39 3 6 := ⟨"IntervalPacker$BitSource", zt_Src, 12, "IntervalPacker$BitSource", rfl, by decide, wd_0_64, zu_Src, Or.inl rfl⟩
theorem wd_0_86 : (Jvm.Cond.sameField "IntervalPacker$BitSource" "IntervalPacker$BitLine" "broken" "Z") ∈ zx_WS := zx_r0 (List.mem_of_getElem? (i := 86) rfl) rfl
theorem wd_0_85 : (Jvm.Cond.fieldLink "IntervalPacker$BitSource" (42 : Nat) "IntervalPacker$BitSource" "broken" "Z") ∈ zx_WS := zx_r0 (List.mem_of_getElem? (i := 85) rfl) rfl
theorem fo_3_42_3 : zx_fOK 3 42 3 2 := ⟨"IntervalPacker$BitSource", zt_Src, 12, "IntervalPacker$BitSource", rfl, by decide, wd_0_85, zu_Src, Or.inr wd_0_86⟩
theorem wd_0_65 : (Jvm.Cond.fieldLink "IntervalPacker$BitSource" (46 : Nat) "IntervalPacker$BitSource" "beyond" "Z") ∈ zx_WS := zx_r0 (List.mem_of_getElem? (i := 65) rfl) rfl
theorem fo_3_46_3 : zx_fOK 3 46 3 7 := ⟨"IntervalPacker$BitSource", zt_Src, 12, "IntervalPacker$BitSource", rfl, by decide, wd_0_65, zu_Src, Or.inl rfl⟩
theorem wd_0_78 : (Jvm.Cond.sameField "IntervalPacker$BitSource" "IntervalPacker$BitLine" "chances" "[I") ∈ zx_WS := zx_r0 (List.mem_of_getElem? (i := 78) rfl) rfl
theorem wd_0_77 : (Jvm.Cond.fieldLink "IntervalPacker$BitSource" (55 : Nat) "IntervalPacker$BitSource" "chances" "[I") ∈ zx_WS := zx_r0 (List.mem_of_getElem? (i := 77) rfl) rfl
theorem fo_3_55_3 : zx_fOK 3 55 3 0 := ⟨"IntervalPacker$BitSource", zt_Src, 12, "IntervalPacker$BitSource", rfl, by decide, wd_0_77, zu_Src, Or.inr wd_0_78⟩
theorem wd_0_68 : (Jvm.Cond.fieldLink "IntervalPacker$BitSource" (65 : Nat) "IntervalPacker$BitSource" "watched" "I") ∈ zx_WS := zx_r0 (List.mem_of_getElem? (i := 68) rfl) rfl
theorem fo_3_65_3 : zx_fOK 3 65 3 9 := ⟨"IntervalPacker$BitSource", zt_Src, 12, "IntervalPacker$BitSource", rfl, by decide, wd_0_68, zu_Src, Or.inl rfl⟩
theorem wd_1_29 : (Jvm.Cond.fieldLink "IntervalPacker$BitSink" (9 : Nat) "IntervalPacker$BitSink" "data" "[I") ∈ zx_WS := zx_r1 (List.mem_of_getElem? (i := 29) rfl) rfl
theorem fo_4_9_4 : zx_fOK 4 9 4 3 := ⟨"IntervalPacker$BitSink", zt_Snk, 6, "IntervalPacker$BitSink", rfl, by decide, wd_1_29, zu_Snk, Or.inl rfl⟩
theorem wd_1_33 : (Jvm.Cond.fieldLink "IntervalPacker$BitSink" (21 : Nat) "IntervalPacker$BitSink" "most" "I") ∈ zx_WS := zx_r1 (List.mem_of_getElem? (i := 33) rfl) rfl
theorem fo_4_21_4 : zx_fOK 4 21 4 5 := ⟨"IntervalPacker$BitSink", zt_Snk, 6, "IntervalPacker$BitSink", rfl, by decide, wd_1_33, zu_Snk, Or.inl rfl⟩
theorem wd_0_84 : (Jvm.Cond.sameField "IntervalPacker$BitSink" "IntervalPacker$BitLine" "broken" "Z") ∈ zx_WS := zx_r0 (List.mem_of_getElem? (i := 84) rfl) rfl
theorem wd_0_83 : (Jvm.Cond.fieldLink "IntervalPacker$BitSink" (25 : Nat) "IntervalPacker$BitSink" "broken" "Z") ∈ zx_WS := zx_r0 (List.mem_of_getElem? (i := 83) rfl) rfl
theorem fo_4_25_4 : zx_fOK 4 25 4 2 := ⟨"IntervalPacker$BitSink", zt_Snk, 6, "IntervalPacker$BitSink", rfl, by decide, wd_0_83, zu_Snk, Or.inr wd_0_84⟩
theorem wd_1_31 : (Jvm.Cond.fieldLink "IntervalPacker$BitSink" (29 : Nat) "IntervalPacker$BitSink" "size" "I") ∈ zx_WS := zx_r1 (List.mem_of_getElem? (i := 31) rfl) rfl
theorem fo_4_29_4 : zx_fOK 4 29 4 4 := ⟨"IntervalPacker$BitSink", zt_Snk, 6, "IntervalPacker$BitSink", rfl, by decide, wd_1_31, zu_Snk, Or.inl rfl⟩
theorem wd_0_80 : (Jvm.Cond.sameField "IntervalPacker$BitSink" "IntervalPacker$BitLine" "range" "J") ∈ zx_WS := zx_r0 (List.mem_of_getElem? (i := 80) rfl) rfl
theorem wd_0_79 : (Jvm.Cond.fieldLink "IntervalPacker$BitSink" (34 : Nat) "IntervalPacker$BitSink" "range" "J") ∈ zx_WS := zx_r0 (List.mem_of_getElem? (i := 79) rfl) rfl
theorem fo_4_34_4 : zx_fOK 4 34 4 1 := ⟨"IntervalPacker$BitSink", zt_Snk, 6, "IntervalPacker$BitSink", rfl, by decide, wd_0_79, zu_Snk, Or.inr wd_0_80⟩
theorem wd_0_76 : (Jvm.Cond.sameField "IntervalPacker$BitSink" "IntervalPacker$BitLine" "chances" "[I") ∈ zx_WS := zx_r0 (List.mem_of_getElem? (i := 76) rfl) rfl
theorem wd_0_75 : (Jvm.Cond.fieldLink "IntervalPacker$BitSink" (50 : Nat) "IntervalPacker$BitSink" "chances" "[I") ∈ zx_WS := zx_r0 (List.mem_of_getElem? (i := 75) rfl) rfl
theorem fo_4_50_4 : zx_fOK 4 50 4 0 := ⟨"IntervalPacker$BitSink", zt_Snk, 6, "IntervalPacker$BitSink", rfl, by decide, wd_0_75, zu_Snk, Or.inr wd_0_76⟩
theorem wd_0_121 : (Jvm.Cond.fieldLink "IntervalPacker$Model" (9 : Nat) "IntervalPacker$Model" "distances" "[J") ∈ zx_WS := zx_r0 (List.mem_of_getElem? (i := 121) rfl) rfl
theorem fo_5_9_5 : zx_fOK 5 9 5 1 := ⟨"IntervalPacker$Model", zt_Mdl, 11, "IntervalPacker$Model", rfl, by decide, wd_0_121, zu_Mdl, Or.inl rfl⟩
theorem wd_0_120 : (Jvm.Cond.fieldLink "IntervalPacker$Model" (15 : Nat) "IntervalPacker$Model" "chances" "[I") ∈ zx_WS := zx_r0 (List.mem_of_getElem? (i := 120) rfl) rfl
theorem fo_5_15_5 : zx_fOK 5 15 5 0 := ⟨"IntervalPacker$Model", zt_Mdl, 11, "IntervalPacker$Model", rfl, by decide, wd_0_120, zu_Mdl, Or.inl rfl⟩
theorem wd_0_126 : (Jvm.Cond.fieldLink "IntervalPacker$Model" (19 : Nat) "IntervalPacker$Model" "line" "LIntervalPacker$BitLine;") ∈ zx_WS := zx_r0 (List.mem_of_getElem? (i := 126) rfl) rfl
theorem fo_5_19_5 : zx_fOK 5 19 5 6 := ⟨"IntervalPacker$Model", zt_Mdl, 11, "IntervalPacker$Model", rfl, by decide, wd_0_126, zu_Mdl, Or.inl rfl⟩
theorem wd_0_123 : (Jvm.Cond.fieldLink "IntervalPacker$Model" (23 : Nat) "IntervalPacker$Model" "lc" "I") ∈ zx_WS := zx_r0 (List.mem_of_getElem? (i := 123) rfl) rfl
theorem fo_5_23_5 : zx_fOK 5 23 5 3 := ⟨"IntervalPacker$Model", zt_Mdl, 11, "IntervalPacker$Model", rfl, by decide, wd_0_123, zu_Mdl, Or.inl rfl⟩
theorem wd_0_124 : (Jvm.Cond.fieldLink "IntervalPacker$Model" (27 : Nat) "IntervalPacker$Model" "lp" "I") ∈ zx_WS := zx_r0 (List.mem_of_getElem? (i := 124) rfl) rfl
theorem fo_5_27_5 : zx_fOK 5 27 5 4 := ⟨"IntervalPacker$Model", zt_Mdl, 11, "IntervalPacker$Model", rfl, by decide, wd_0_124, zu_Mdl, Or.inl rfl⟩
theorem wd_0_125 : (Jvm.Cond.fieldLink "IntervalPacker$Model" (30 : Nat) "IntervalPacker$Model" "pb" "I") ∈ zx_WS := zx_r0 (List.mem_of_getElem? (i := 125) rfl) rfl
theorem fo_5_30_5 : zx_fOK 5 30 5 5 := ⟨"IntervalPacker$Model", zt_Mdl, 11, "IntervalPacker$Model", rfl, by decide, wd_0_125, zu_Mdl, Or.inl rfl⟩
theorem wd_0_122 : (Jvm.Cond.fieldLink "IntervalPacker$Model" (42 : Nat) "IntervalPacker$Model" "state" "I") ∈ zx_WS := zx_r0 (List.mem_of_getElem? (i := 122) rfl) rfl
theorem fo_5_42_5 : zx_fOK 5 42 5 2 := ⟨"IntervalPacker$Model", zt_Mdl, 11, "IntervalPacker$Model", rfl, by decide, wd_0_122, zu_Mdl, Or.inl rfl⟩
theorem wd_0_127 : (Jvm.Cond.fieldLink "IntervalPacker$Model" (49 : Nat) "IntervalPacker$Model" "kind" "I") ∈ zx_WS := zx_r0 (List.mem_of_getElem? (i := 127) rfl) rfl
theorem fo_5_49_5 : zx_fOK 5 49 5 7 := ⟨"IntervalPacker$Model", zt_Mdl, 11, "IntervalPacker$Model", rfl, by decide, wd_0_127, zu_Mdl, Or.inl rfl⟩
theorem wd_0_130 : (Jvm.Cond.fieldLink "IntervalPacker$Model" (56 : Nat) "IntervalPacker$Model" "octet" "I") ∈ zx_WS := zx_r0 (List.mem_of_getElem? (i := 130) rfl) rfl
theorem fo_5_56_5 : zx_fOK 5 56 5 8 := ⟨"IntervalPacker$Model", zt_Mdl, 11, "IntervalPacker$Model", rfl, by decide, wd_0_130, zu_Mdl, Or.inl rfl⟩
theorem wd_0_133 : (Jvm.Cond.fieldLink "IntervalPacker$Model" (59 : Nat) "IntervalPacker$Model" "length" "I") ∈ zx_WS := zx_r0 (List.mem_of_getElem? (i := 133) rfl) rfl
theorem fo_5_59_5 : zx_fOK 5 59 5 9 := ⟨"IntervalPacker$Model", zt_Mdl, 11, "IntervalPacker$Model", rfl, by decide, wd_0_133, zu_Mdl, Or.inl rfl⟩
theorem wd_0_136 : (Jvm.Cond.fieldLink "IntervalPacker$Model" (69 : Nat) "IntervalPacker$Model" "distance" "J") ∈ zx_WS := zx_r0 (List.mem_of_getElem? (i := 136) rfl) rfl
theorem fo_5_69_5 : zx_fOK 5 69 5 10 := ⟨"IntervalPacker$Model", zt_Mdl, 11, "IntervalPacker$Model", rfl, by decide, wd_0_136, zu_Mdl, Or.inl rfl⟩
theorem wd_0_200 : (Jvm.Cond.fieldLink "IntervalPacker$Unpacking" (14 : Nat) "IntervalPacker$Unpacking" "given" "LIntervalPacker$Row;") ∈ zx_WS := zx_r0 (List.mem_of_getElem? (i := 200) rfl) rfl
theorem fo_6_14_6 : zx_fOK 6 14 6 0 := ⟨"IntervalPacker$Unpacking", zt_Unp, 19, "IntervalPacker$Unpacking", rfl, by decide, wd_0_200, zu_Unp, Or.inl rfl⟩
theorem wd_0_202 : (Jvm.Cond.fieldLink "IntervalPacker$Unpacking" (23 : Nat) "IntervalPacker$Unpacking" "cursor" "LIntervalPacker$Cursor;") ∈ zx_WS := zx_r0 (List.mem_of_getElem? (i := 202) rfl) rfl
theorem fo_6_23_6 : zx_fOK 6 23 6 1 := ⟨"IntervalPacker$Unpacking", zt_Unp, 19, "IntervalPacker$Unpacking", rfl, by decide, wd_0_202, zu_Unp, Or.inl rfl⟩
theorem wd_0_204 : (Jvm.Cond.fieldLink "IntervalPacker$Unpacking" (27 : Nat) "IntervalPacker$Unpacking" "counts" "[I") ∈ zx_WS := zx_r0 (List.mem_of_getElem? (i := 204) rfl) rfl
theorem fo_6_27_6 : zx_fOK 6 27 6 2 := ⟨"IntervalPacker$Unpacking", zt_Unp, 19, "IntervalPacker$Unpacking", rfl, by decide, wd_0_204, zu_Unp, Or.inl rfl⟩
theorem wd_0_208 : (Jvm.Cond.fieldLink "IntervalPacker$Unpacking" (31 : Nat) "IntervalPacker$Unpacking" "sizes" "[J") ∈ zx_WS := zx_r0 (List.mem_of_getElem? (i := 208) rfl) rfl
theorem fo_6_31_6 : zx_fOK 6 31 6 5 := ⟨"IntervalPacker$Unpacking", zt_Unp, 19, "IntervalPacker$Unpacking", rfl, by decide, wd_0_208, zu_Unp, Or.inl rfl⟩
theorem wd_0_209 : (Jvm.Cond.fieldLink "IntervalPacker$Unpacking" (35 : Nat) "IntervalPacker$Unpacking" "gifts" "[J") ∈ zx_WS := zx_r0 (List.mem_of_getElem? (i := 209) rfl) rfl
theorem fo_6_35_6 : zx_fOK 6 35 6 6 := ⟨"IntervalPacker$Unpacking", zt_Unp, 19, "IntervalPacker$Unpacking", rfl, by decide, wd_0_209, zu_Unp, Or.inl rfl⟩
theorem wd_0_206 : (Jvm.Cond.fieldLink "IntervalPacker$Unpacking" (38 : Nat) "IntervalPacker$Unpacking" "model" "LIntervalPacker$Model;") ∈ zx_WS := zx_r0 (List.mem_of_getElem? (i := 206) rfl) rfl
theorem fo_6_38_6 : zx_fOK 6 38 6 3 := ⟨"IntervalPacker$Unpacking", zt_Unp, 19, "IntervalPacker$Unpacking", rfl, by decide, wd_0_206, zu_Unp, Or.inl rfl⟩
theorem wd_0_207 : (Jvm.Cond.fieldLink "IntervalPacker$Unpacking" (42 : Nat) "IntervalPacker$Unpacking" "source" "LIntervalPacker$BitSource;") ∈ zx_WS := zx_r0 (List.mem_of_getElem? (i := 207) rfl) rfl
theorem fo_6_42_6 : zx_fOK 6 42 6 4 := ⟨"IntervalPacker$Unpacking", zt_Unp, 19, "IntervalPacker$Unpacking", rfl, by decide, wd_0_207, zu_Unp, Or.inl rfl⟩
theorem wd_0_177 : (Jvm.Cond.fieldLink "IntervalPacker$Unpacking" (71 : Nat) "IntervalPacker$Cursor" "bytes" "[I") ∈ zx_WS := zx_r0 (List.mem_of_getElem? (i := 177) rfl) rfl
theorem fo_6_71_2 : zx_fOK 6 71 2 0 := ⟨"IntervalPacker$Cursor", zt_Cur, 6, "IntervalPacker$Cursor", rfl, by decide, wd_0_177, zu_Cur, Or.inl rfl⟩
theorem wd_0_182 : (Jvm.Cond.fieldLink "IntervalPacker$Unpacking" (78 : Nat) "IntervalPacker$Cursor" "next" "I") ∈ zx_WS := zx_r0 (List.mem_of_getElem? (i := 182) rfl) rfl
theorem fo_6_78_2 : zx_fOK 6 78 2 3 := ⟨"IntervalPacker$Cursor", zt_Cur, 6, "IntervalPacker$Cursor", rfl, by decide, wd_0_182, zu_Cur, Or.inl rfl⟩
theorem wd_0_210 : (Jvm.Cond.fieldLink "IntervalPacker$Unpacking" (82 : Nat) "IntervalPacker$Unpacking" "sort" "I") ∈ zx_WS := zx_r0 (List.mem_of_getElem? (i := 210) rfl) rfl
theorem fo_6_82_6 : zx_fOK 6 82 6 7 := ⟨"IntervalPacker$Unpacking", zt_Unp, 19, "IntervalPacker$Unpacking", rfl, by decide, wd_0_210, zu_Unp, Or.inl rfl⟩
theorem wd_0_211 : (Jvm.Cond.fieldLink "IntervalPacker$Unpacking" (96 : Nat) "IntervalPacker$Unpacking" "blockPlace" "I") ∈ zx_WS := zx_r0 (List.mem_of_getElem? (i := 211) rfl) rfl
theorem fo_6_96_6 : zx_fOK 6 96 6 8 := ⟨"IntervalPacker$Unpacking", zt_Unp, 19, "IntervalPacker$Unpacking", rfl, by decide, wd_0_211, zu_Unp, Or.inl rfl⟩
theorem wd_0_39 : (Jvm.Cond.fieldLink "IntervalPacker$Unpacking" (99 : Nat) "IntervalPacker$Row" "size" "I") ∈ zx_WS := zx_r0 (List.mem_of_getElem? (i := 39) rfl) rfl
theorem fo_6_99_1 : zx_fOK 6 99 1 1 := ⟨"IntervalPacker$Row", zt_Row, 3, "IntervalPacker$Row", rfl, by decide, wd_0_39, zu_Row, Or.inl rfl⟩
theorem wd_0_212 : (Jvm.Cond.fieldLink "IntervalPacker$Unpacking" (102 : Nat) "IntervalPacker$Unpacking" "givenBefore" "I") ∈ zx_WS := zx_r0 (List.mem_of_getElem? (i := 212) rfl) rfl
theorem fo_6_102_6 : zx_fOK 6 102 6 9 := ⟨"IntervalPacker$Unpacking", zt_Unp, 19, "IntervalPacker$Unpacking", rfl, by decide, wd_0_212, zu_Unp, Or.inl rfl⟩
theorem wd_0_216 : (Jvm.Cond.fieldLink "IntervalPacker$Unpacking" (105 : Nat) "IntervalPacker$Unpacking" "isFirstChunk" "Z") ∈ zx_WS := zx_r0 (List.mem_of_getElem? (i := 216) rfl) rfl
theorem fo_6_105_6 : zx_fOK 6 105 6 13 := ⟨"IntervalPacker$Unpacking", zt_Unp, 19, "IntervalPacker$Unpacking", rfl, by decide, wd_0_216, zu_Unp, Or.inl rfl⟩
theorem wd_0_217 : (Jvm.Cond.fieldLink "IntervalPacker$Unpacking" (109 : Nat) "IntervalPacker$Unpacking" "lacksProperties" "Z") ∈ zx_WS := zx_r0 (List.mem_of_getElem? (i := 217) rfl) rfl
theorem fo_6_109_6 : zx_fOK 6 109 6 14 := ⟨"IntervalPacker$Unpacking", zt_Unp, 19, "IntervalPacker$Unpacking", rfl, by decide, wd_0_217, zu_Unp, Or.inl rfl⟩
theorem wd_0_218 : (Jvm.Cond.fieldLink "IntervalPacker$Unpacking" (122 : Nat) "IntervalPacker$Unpacking" "control" "I") ∈ zx_WS := zx_r0 (List.mem_of_getElem? (i := 218) rfl) rfl
theorem fo_6_122_6 : zx_fOK 6 122 6 15 := ⟨"IntervalPacker$Unpacking", zt_Unp, 19, "IntervalPacker$Unpacking", rfl, by decide, wd_0_218, zu_Unp, Or.inl rfl⟩
theorem wd_0_213 : (Jvm.Cond.fieldLink "IntervalPacker$Unpacking" (155 : Nat) "IntervalPacker$Unpacking" "saidSize" "J") ∈ zx_WS := zx_r0 (List.mem_of_getElem? (i := 213) rfl) rfl
theorem fo_6_155_6 : zx_fOK 6 155 6 10 := ⟨"IntervalPacker$Unpacking", zt_Unp, 19, "IntervalPacker$Unpacking", rfl, by decide, wd_0_213, zu_Unp, Or.inl rfl⟩
theorem wd_0_214 : (Jvm.Cond.fieldLink "IntervalPacker$Unpacking" (159 : Nat) "IntervalPacker$Unpacking" "saidGift" "J") ∈ zx_WS := zx_r0 (List.mem_of_getElem? (i := 214) rfl) rfl
theorem fo_6_159_6 : zx_fOK 6 159 6 11 := ⟨"IntervalPacker$Unpacking", zt_Unp, 19, "IntervalPacker$Unpacking", rfl, by decide, wd_0_214, zu_Unp, Or.inl rfl⟩
theorem wd_0_215 : (Jvm.Cond.fieldLink "IntervalPacker$Unpacking" (172 : Nat) "IntervalPacker$Unpacking" "dictionary" "I") ∈ zx_WS := zx_r0 (List.mem_of_getElem? (i := 215) rfl) rfl
theorem fo_6_172_6 : zx_fOK 6 172 6 12 := ⟨"IntervalPacker$Unpacking", zt_Unp, 19, "IntervalPacker$Unpacking", rfl, by decide, wd_0_215, zu_Unp, Or.inl rfl⟩
theorem wd_0_219 : (Jvm.Cond.fieldLink "IntervalPacker$Unpacking" (179 : Nat) "IntervalPacker$Unpacking" "gift" "I") ∈ zx_WS := zx_r0 (List.mem_of_getElem? (i := 219) rfl) rfl
theorem fo_6_179_6 : zx_fOK 6 179 6 16 := ⟨"IntervalPacker$Unpacking", zt_Unp, 19, "IntervalPacker$Unpacking", rfl, by decide, wd_0_219, zu_Unp, Or.inl rfl⟩
theorem wd_0_220 : (Jvm.Cond.fieldLink "IntervalPacker$Unpacking" (182 : Nat) "IntervalPacker$Unpacking" "dataSize" "I") ∈ zx_WS := zx_r0 (List.mem_of_getElem? (i := 220) rfl) rfl
theorem fo_6_182_6 : zx_fOK 6 182 6 17 := ⟨"IntervalPacker$Unpacking", zt_Unp, 19, "IntervalPacker$Unpacking", rfl, by decide, wd_0_220, zu_Unp, Or.inl rfl⟩
theorem wd_0_88 : (Jvm.Cond.fieldLink "IntervalPacker$Unpacking" (227 : Nat) "IntervalPacker$BitSource" "broken" "Z") ∈ zx_WS := zx_r0 (List.mem_of_getElem? (i := 88) rfl) rfl
theorem fo_6_227_3 : zx_fOK 6 227 3 2 := ⟨"IntervalPacker$BitSource", zt_Src, 12, "IntervalPacker$BitSource", rfl, by decide, wd_0_88, zu_Src, Or.inr wd_0_86⟩
theorem wd_0_129 : (Jvm.Cond.fieldLink "IntervalPacker$Unpacking" (234 : Nat) "IntervalPacker$Model" "kind" "I") ∈ zx_WS := zx_r0 (List.mem_of_getElem? (i := 129) rfl) rfl
theorem fo_6_234_5 : zx_fOK 6 234 5 7 := ⟨"IntervalPacker$Model", zt_Mdl, 11, "IntervalPacker$Model", rfl, by decide, wd_0_129, zu_Mdl, Or.inl rfl⟩
theorem wd_0_132 : (Jvm.Cond.fieldLink "IntervalPacker$Unpacking" (240 : Nat) "IntervalPacker$Model" "octet" "I") ∈ zx_WS := zx_r0 (List.mem_of_getElem? (i := 132) rfl) rfl
theorem fo_6_240_5 : zx_fOK 6 240 5 8 := ⟨"IntervalPacker$Model", zt_Mdl, 11, "IntervalPacker$Model", rfl, by decide, wd_0_132, zu_Mdl, Or.inl rfl⟩
theorem wd_0_135 : (Jvm.Cond.fieldLink "IntervalPacker$Unpacking" (246 : Nat) "IntervalPacker$Model" "length" "I") ∈ zx_WS := zx_r0 (List.mem_of_getElem? (i := 135) rfl) rfl
theorem fo_6_246_5 : zx_fOK 6 246 5 9 := ⟨"IntervalPacker$Model", zt_Mdl, 11, "IntervalPacker$Model", rfl, by decide, wd_0_135, zu_Mdl, Or.inl rfl⟩
theorem wd_0_34 : (Jvm.Cond.fieldLink "IntervalPacker$Unpacking" (260 : Nat) "IntervalPacker$Row" "bytes" "[I") ∈ zx_WS := zx_r0 (List.mem_of_getElem? (i := 34) rfl) rfl
theorem fo_6_260_1 : zx_fOK 6 260 1 0 := ⟨"IntervalPacker$Row", zt_Row, 3, "IntervalPacker$Row", rfl, by decide, wd_0_34, zu_Row, Or.inl rfl⟩
theorem wd_0_221 : (Jvm.Cond.fieldLink "IntervalPacker$Unpacking" (268 : Nat) "IntervalPacker$Unpacking" "indexSize" "I") ∈ zx_WS := zx_r0 (List.mem_of_getElem? (i := 221) rfl) rfl
theorem fo_6_268_6 : zx_fOK 6 268 6 18 := ⟨"IntervalPacker$Unpacking", zt_Unp, 19, "IntervalPacker$Unpacking", rfl, by decide, wd_0_221, zu_Unp, Or.inl rfl⟩
theorem wd_0_179 : (Jvm.Cond.fieldLink "IntervalPacker$Unpacking" (271 : Nat) "IntervalPacker$Cursor" "size" "I") ∈ zx_WS := zx_r0 (List.mem_of_getElem? (i := 179) rfl) rfl
theorem fo_6_271_2 : zx_fOK 6 271 2 1 := ⟨"IntervalPacker$Cursor", zt_Cur, 6, "IntervalPacker$Cursor", rfl, by decide, wd_0_179, zu_Cur, Or.inl rfl⟩
theorem wd_1_50 : (Jvm.Cond.fieldLink "IntervalPacker$Packing" (14 : Nat) "IntervalPacker$Packing" "draft" "LIntervalPacker$Row;") ∈ zx_WS := zx_r1 (List.mem_of_getElem? (i := 50) rfl) rfl
theorem fo_7_14_7 : zx_fOK 7 14 7 0 := ⟨"IntervalPacker$Packing", zt_Pkg, 17, "IntervalPacker$Packing", rfl, by decide, wd_1_50, zu_Pkg, Or.inl rfl⟩
theorem wd_1_54 : (Jvm.Cond.fieldLink "IntervalPacker$Packing" (20 : Nat) "IntervalPacker$Packing" "end" "[I") ∈ zx_WS := zx_r1 (List.mem_of_getElem? (i := 54) rfl) rfl
theorem fo_7_20_7 : zx_fOK 7 20 7 3 := ⟨"IntervalPacker$Packing", zt_Pkg, 17, "IntervalPacker$Packing", rfl, by decide, wd_1_54, zu_Pkg, Or.inl rfl⟩
theorem wd_1_52 : (Jvm.Cond.fieldLink "IntervalPacker$Packing" (24 : Nat) "IntervalPacker$Packing" "model" "LIntervalPacker$Model;") ∈ zx_WS := zx_r1 (List.mem_of_getElem? (i := 52) rfl) rfl
theorem fo_7_24_7 : zx_fOK 7 24 7 1 := ⟨"IntervalPacker$Packing", zt_Pkg, 17, "IntervalPacker$Packing", rfl, by decide, wd_1_52, zu_Pkg, Or.inl rfl⟩
theorem wd_1_53 : (Jvm.Cond.fieldLink "IntervalPacker$Packing" (28 : Nat) "IntervalPacker$Packing" "sink" "LIntervalPacker$BitSink;") ∈ zx_WS := zx_r1 (List.mem_of_getElem? (i := 53) rfl) rfl
theorem fo_7_28_7 : zx_fOK 7 28 7 2 := ⟨"IntervalPacker$Packing", zt_Pkg, 17, "IntervalPacker$Packing", rfl, by decide, wd_1_53, zu_Pkg, Or.inl rfl⟩
theorem wd_1_55 : (Jvm.Cond.fieldLink "IntervalPacker$Packing" (32 : Nat) "IntervalPacker$Packing" "plain" "LIntervalPacker$Row;") ∈ zx_WS := zx_r1 (List.mem_of_getElem? (i := 55) rfl) rfl
theorem fo_7_32_7 : zx_fOK 7 32 7 4 := ⟨"IntervalPacker$Packing", zt_Pkg, 17, "IntervalPacker$Packing", rfl, by decide, wd_1_55, zu_Pkg, Or.inl rfl⟩
theorem wd_1_56 : (Jvm.Cond.fieldLink "IntervalPacker$Packing" (35 : Nat) "IntervalPacker$Packing" "sort" "I") ∈ zx_WS := zx_r1 (List.mem_of_getElem? (i := 56) rfl) rfl
theorem fo_7_35_7 : zx_fOK 7 35 7 5 := ⟨"IntervalPacker$Packing", zt_Pkg, 17, "IntervalPacker$Packing", rfl, by decide, wd_1_56, zu_Pkg, Or.inl rfl⟩
theorem wd_1_57 : (Jvm.Cond.fieldLink "IntervalPacker$Packing" (39 : Nat) "IntervalPacker$Packing" "properties" "I") ∈ zx_WS := zx_r1 (List.mem_of_getElem? (i := 57) rfl) rfl
theorem fo_7_39_7 : zx_fOK 7 39 7 6 := ⟨"IntervalPacker$Packing", zt_Pkg, 17, "IntervalPacker$Packing", rfl, by decide, wd_1_57, zu_Pkg, Or.inl rfl⟩
theorem wd_0_32 : (Jvm.Cond.fieldLink "IntervalPacker$Packing" (55 : Nat) "IntervalPacker$Row" "bytes" "[I") ∈ zx_WS := zx_r0 (List.mem_of_getElem? (i := 32) rfl) rfl
theorem fo_7_55_1 : zx_fOK 7 55 1 0 := ⟨"IntervalPacker$Row", zt_Row, 3, "IntervalPacker$Row", rfl, by decide, wd_0_32, zu_Row, Or.inl rfl⟩
theorem wd_0_38 : (Jvm.Cond.fieldLink "IntervalPacker$Packing" (66 : Nat) "IntervalPacker$Row" "size" "I") ∈ zx_WS := zx_r0 (List.mem_of_getElem? (i := 38) rfl) rfl
theorem fo_7_66_1 : zx_fOK 7 66 1 1 := ⟨"IntervalPacker$Row", zt_Row, 3, "IntervalPacker$Row", rfl, by decide, wd_0_38, zu_Row, Or.inl rfl⟩
theorem wd_1_58 : (Jvm.Cond.fieldLink "IntervalPacker$Packing" (69 : Nat) "IntervalPacker$Packing" "blockPlace" "I") ∈ zx_WS := zx_r1 (List.mem_of_getElem? (i := 58) rfl) rfl
theorem fo_7_69_7 : zx_fOK 7 69 7 7 := ⟨"IntervalPacker$Packing", zt_Pkg, 17, "IntervalPacker$Packing", rfl, by decide, wd_1_58, zu_Pkg, Or.inl rfl⟩
theorem wd_1_61 : (Jvm.Cond.fieldLink "IntervalPacker$Packing" (72 : Nat) "IntervalPacker$Packing" "isFirstChunk" "Z") ∈ zx_WS := zx_r1 (List.mem_of_getElem? (i := 61) rfl) rfl
theorem fo_7_72_7 : zx_fOK 7 72 7 10 := ⟨"IntervalPacker$Packing", zt_Pkg, 17, "IntervalPacker$Packing", rfl, by decide, wd_1_61, zu_Pkg, Or.inl rfl⟩
theorem wd_1_62 : (Jvm.Cond.fieldLink "IntervalPacker$Packing" (76 : Nat) "IntervalPacker$Packing" "isFirstCoded" "Z") ∈ zx_WS := zx_r1 (List.mem_of_getElem? (i := 62) rfl) rfl
theorem fo_7_76_7 : zx_fOK 7 76 7 11 := ⟨"IntervalPacker$Packing", zt_Pkg, 17, "IntervalPacker$Packing", rfl, by decide, wd_1_62, zu_Pkg, Or.inl rfl⟩
theorem wd_1_63 : (Jvm.Cond.fieldLink "IntervalPacker$Packing" (79 : Nat) "IntervalPacker$Packing" "isBehindPlain" "Z") ∈ zx_WS := zx_r1 (List.mem_of_getElem? (i := 63) rfl) rfl
theorem fo_7_79_7 : zx_fOK 7 79 7 12 := ⟨"IntervalPacker$Packing", zt_Pkg, 17, "IntervalPacker$Packing", rfl, by decide, wd_1_63, zu_Pkg, Or.inl rfl⟩
theorem wd_0_41 : (Jvm.Cond.fieldLink "IntervalPacker$Packing" (82 : Nat) "IntervalPacker$Row" "overfull" "Z") ∈ zx_WS := zx_r0 (List.mem_of_getElem? (i := 41) rfl) rfl
theorem fo_7_82_1 : zx_fOK 7 82 1 2 := ⟨"IntervalPacker$Row", zt_Row, 3, "IntervalPacker$Row", rfl, by decide, wd_0_41, zu_Row, Or.inl rfl⟩
theorem wd_1_32 : (Jvm.Cond.fieldLink "IntervalPacker$Packing" (99 : Nat) "IntervalPacker$BitSink" "size" "I") ∈ zx_WS := zx_r1 (List.mem_of_getElem? (i := 32) rfl) rfl
theorem fo_7_99_4 : zx_fOK 7 99 4 4 := ⟨"IntervalPacker$BitSink", zt_Snk, 6, "IntervalPacker$BitSink", rfl, by decide, wd_1_32, zu_Snk, Or.inl rfl⟩
theorem wd_1_30 : (Jvm.Cond.fieldLink "IntervalPacker$Packing" (102 : Nat) "IntervalPacker$BitSink" "data" "[I") ∈ zx_WS := zx_r1 (List.mem_of_getElem? (i := 30) rfl) rfl
theorem fo_7_102_4 : zx_fOK 7 102 4 3 := ⟨"IntervalPacker$BitSink", zt_Snk, 6, "IntervalPacker$BitSink", rfl, by decide, wd_1_30, zu_Snk, Or.inl rfl⟩
theorem wd_0_87 : (Jvm.Cond.fieldLink "IntervalPacker$Packing" (108 : Nat) "IntervalPacker$BitSink" "broken" "Z") ∈ zx_WS := zx_r0 (List.mem_of_getElem? (i := 87) rfl) rfl
theorem fo_7_108_4 : zx_fOK 7 108 4 2 := ⟨"IntervalPacker$BitSink", zt_Snk, 6, "IntervalPacker$BitSink", rfl, by decide, wd_0_87, zu_Snk, Or.inr wd_0_84⟩
theorem wd_0_134 : (Jvm.Cond.fieldLink "IntervalPacker$Packing" (144 : Nat) "IntervalPacker$Model" "length" "I") ∈ zx_WS := zx_r0 (List.mem_of_getElem? (i := 134) rfl) rfl
theorem fo_7_144_5 : zx_fOK 7 144 5 9 := ⟨"IntervalPacker$Model", zt_Mdl, 11, "IntervalPacker$Model", rfl, by decide, wd_0_134, zu_Mdl, Or.inl rfl⟩
theorem wd_0_131 : (Jvm.Cond.fieldLink "IntervalPacker$Packing" (159 : Nat) "IntervalPacker$Model" "octet" "I") ∈ zx_WS := zx_r0 (List.mem_of_getElem? (i := 131) rfl) rfl
theorem fo_7_159_5 : zx_fOK 7 159 5 8 := ⟨"IntervalPacker$Model", zt_Mdl, 11, "IntervalPacker$Model", rfl, by decide, wd_0_131, zu_Mdl, Or.inl rfl⟩
theorem wd_1_66 : (Jvm.Cond.fieldLink "IntervalPacker$Packing" (162 : Nat) "IntervalPacker$Packing" "againLength" "I") ∈ zx_WS := zx_r1 (List.mem_of_getElem? (i := 66) rfl) rfl
theorem fo_7_162_7 : zx_fOK 7 162 7 15 := ⟨"IntervalPacker$Packing", zt_Pkg, 17, "IntervalPacker$Packing", rfl, by decide, wd_1_66, zu_Pkg, Or.inl rfl⟩
theorem wd_1_64 : (Jvm.Cond.fieldLink "IntervalPacker$Packing" (165 : Nat) "IntervalPacker$Packing" "matchLength" "I") ∈ zx_WS := zx_r1 (List.mem_of_getElem? (i := 64) rfl) rfl
theorem fo_7_165_7 : zx_fOK 7 165 7 13 := ⟨"IntervalPacker$Packing", zt_Pkg, 17, "IntervalPacker$Packing", rfl, by decide, wd_1_64, zu_Pkg, Or.inl rfl⟩
theorem wd_1_67 : (Jvm.Cond.fieldLink "IntervalPacker$Packing" (168 : Nat) "IntervalPacker$Packing" "again" "I") ∈ zx_WS := zx_r1 (List.mem_of_getElem? (i := 67) rfl) rfl
theorem fo_7_168_7 : zx_fOK 7 168 7 16 := ⟨"IntervalPacker$Packing", zt_Pkg, 17, "IntervalPacker$Packing", rfl, by decide, wd_1_67, zu_Pkg, Or.inl rfl⟩
theorem wd_0_128 : (Jvm.Cond.fieldLink "IntervalPacker$Packing" (171 : Nat) "IntervalPacker$Model" "kind" "I") ∈ zx_WS := zx_r0 (List.mem_of_getElem? (i := 128) rfl) rfl
theorem fo_7_171_5 : zx_fOK 7 171 5 7 := ⟨"IntervalPacker$Model", zt_Mdl, 11, "IntervalPacker$Model", rfl, by decide, wd_0_128, zu_Mdl, Or.inl rfl⟩
theorem wd_1_65 : (Jvm.Cond.fieldLink "IntervalPacker$Packing" (174 : Nat) "IntervalPacker$Packing" "matchDistance" "I") ∈ zx_WS := zx_r1 (List.mem_of_getElem? (i := 65) rfl) rfl
theorem fo_7_174_7 : zx_fOK 7 174 7 14 := ⟨"IntervalPacker$Packing", zt_Pkg, 17, "IntervalPacker$Packing", rfl, by decide, wd_1_65, zu_Pkg, Or.inl rfl⟩
theorem wd_0_137 : (Jvm.Cond.fieldLink "IntervalPacker$Packing" (177 : Nat) "IntervalPacker$Model" "distance" "J") ∈ zx_WS := zx_r0 (List.mem_of_getElem? (i := 137) rfl) rfl
theorem fo_7_177_5 : zx_fOK 7 177 5 10 := ⟨"IntervalPacker$Model", zt_Mdl, 11, "IntervalPacker$Model", rfl, by decide, wd_0_137, zu_Mdl, Or.inl rfl⟩
theorem wd_1_59 : (Jvm.Cond.fieldLink "IntervalPacker$Packing" (189 : Nat) "IntervalPacker$Packing" "blockSize" "J") ∈ zx_WS := zx_r1 (List.mem_of_getElem? (i := 59) rfl) rfl
theorem fo_7_189_7 : zx_fOK 7 189 7 8 := ⟨"IntervalPacker$Packing", zt_Pkg, 17, "IntervalPacker$Packing", rfl, by decide, wd_1_59, zu_Pkg, Or.inl rfl⟩
theorem wd_1_60 : (Jvm.Cond.fieldLink "IntervalPacker$Packing" (206 : Nat) "IntervalPacker$Packing" "indexSize" "I") ∈ zx_WS := zx_r1 (List.mem_of_getElem? (i := 60) rfl) rfl
theorem fo_7_206_7 : zx_fOK 7 206 7 9 := ⟨"IntervalPacker$Packing", zt_Pkg, 17, "IntervalPacker$Packing", rfl, by decide, wd_1_60, zu_Pkg, Or.inl rfl⟩
theorem wd_3_138 : (Jvm.Cond.fieldLink "IntervalPackerModel" (7 : Nat) "IntervalPackerModel" "plain" "[I") ∈ zx_WS := zx_r3 (List.mem_of_getElem? (i := 138) rfl) rfl
theorem fo_8_7_8 : zx_fOK 8 7 8 0 := ⟨"IntervalPackerModel", zt_R, 42, "IntervalPackerModel", rfl, by decide, wd_3_138, zu_R, Or.inl rfl⟩
theorem wd_3_140 : (Jvm.Cond.fieldLink "IntervalPackerModel" (13 : Nat) "IntervalPackerModel" "packed" "[I") ∈ zx_WS := zx_r3 (List.mem_of_getElem? (i := 140) rfl) rfl
theorem fo_8_13_8 : zx_fOK 8 13 8 2 := ⟨"IntervalPackerModel", zt_R, 42, "IntervalPackerModel", rfl, by decide, wd_3_140, zu_R, Or.inl rfl⟩
theorem wd_3_142 : (Jvm.Cond.fieldLink "IntervalPackerModel" (16 : Nat) "IntervalPackerModel" "made" "[I") ∈ zx_WS := zx_r3 (List.mem_of_getElem? (i := 142) rfl) rfl
theorem fo_8_16_8 : zx_fOK 8 16 8 4 := ⟨"IntervalPackerModel", zt_R, 42, "IntervalPackerModel", rfl, by decide, wd_3_142, zu_R, Or.inl rfl⟩
theorem wd_3_144 : (Jvm.Cond.fieldLink "IntervalPackerModel" (19 : Nat) "IntervalPackerModel" "box" "[I") ∈ zx_WS := zx_r3 (List.mem_of_getElem? (i := 144) rfl) rfl
theorem fo_8_19_8 : zx_fOK 8 19 8 6 := ⟨"IntervalPackerModel", zt_R, 42, "IntervalPackerModel", rfl, by decide, wd_3_144, zu_R, Or.inl rfl⟩
theorem wd_3_146 : (Jvm.Cond.fieldLink "IntervalPackerModel" (22 : Nat) "IntervalPackerModel" "chances" "[I") ∈ zx_WS := zx_r3 (List.mem_of_getElem? (i := 146) rfl) rfl
theorem fo_8_22_8 : zx_fOK 8 22 8 8 := ⟨"IntervalPackerModel", zt_R, 42, "IntervalPackerModel", rfl, by decide, wd_3_146, zu_R, Or.inl rfl⟩
theorem wd_3_162 : (Jvm.Cond.fieldLink "IntervalPackerModel" (25 : Nat) "IntervalPackerModel" "low" "[I") ∈ zx_WS := zx_r3 (List.mem_of_getElem? (i := 162) rfl) rfl
theorem fo_8_25_8 : zx_fOK 8 25 8 24 := ⟨"IntervalPackerModel", zt_R, 42, "IntervalPackerModel", rfl, by decide, wd_3_162, zu_R, Or.inl rfl⟩
theorem wd_3_168 : (Jvm.Cond.fieldLink "IntervalPackerModel" (28 : Nat) "IntervalPackerModel" "faultAt" "I") ∈ zx_WS := zx_r3 (List.mem_of_getElem? (i := 168) rfl) rfl
theorem fo_8_28_8 : zx_fOK 8 28 8 30 := ⟨"IntervalPackerModel", zt_R, 42, "IntervalPackerModel", rfl, by decide, wd_3_168, zu_R, Or.inl rfl⟩
theorem wd_3_171 : (Jvm.Cond.fieldLink "IntervalPackerModel" (32 : Nat) "IntervalPackerModel" "sizes" "[I") ∈ zx_WS := zx_r3 (List.mem_of_getElem? (i := 171) rfl) rfl
theorem fo_8_32_8 : zx_fOK 8 32 8 33 := ⟨"IntervalPackerModel", zt_R, 42, "IntervalPackerModel", rfl, by decide, wd_3_171, zu_R, Or.inl rfl⟩
theorem wd_3_172 : (Jvm.Cond.fieldLink "IntervalPackerModel" (35 : Nat) "IntervalPackerModel" "gives" "[I") ∈ zx_WS := zx_r3 (List.mem_of_getElem? (i := 172) rfl) rfl
theorem fo_8_35_8 : zx_fOK 8 35 8 34 := ⟨"IntervalPackerModel", zt_R, 42, "IntervalPackerModel", rfl, by decide, wd_3_172, zu_R, Or.inl rfl⟩
theorem wd_3_177 : (Jvm.Cond.fieldLink "IntervalPackerModel" (40 : Nat) "IntervalPackerModel" "keptRange" "J") ∈ zx_WS := zx_r3 (List.mem_of_getElem? (i := 177) rfl) rfl
theorem fo_8_40_8 : zx_fOK 8 40 8 39 := ⟨"IntervalPackerModel", zt_R, 42, "IntervalPackerModel", rfl, by decide, wd_3_177, zu_R, Or.inl rfl⟩
theorem wd_3_178 : (Jvm.Cond.fieldLink "IntervalPackerModel" (44 : Nat) "IntervalPackerModel" "keptCode" "J") ∈ zx_WS := zx_r3 (List.mem_of_getElem? (i := 178) rfl) rfl
theorem fo_8_44_8 : zx_fOK 8 44 8 40 := ⟨"IntervalPackerModel", zt_R, 42, "IntervalPackerModel", rfl, by decide, wd_3_178, zu_R, Or.inl rfl⟩
theorem wd_3_179 : (Jvm.Cond.fieldLink "IntervalPackerModel" (47 : Nat) "IntervalPackerModel" "counts" "[I") ∈ zx_WS := zx_r3 (List.mem_of_getElem? (i := 179) rfl) rfl
theorem fo_8_47_8 : zx_fOK 8 47 8 41 := ⟨"IntervalPackerModel", zt_R, 42, "IntervalPackerModel", rfl, by decide, wd_3_179, zu_R, Or.inl rfl⟩
theorem wd_3_141 : (Jvm.Cond.fieldLink "IntervalPackerModel" (50 : Nat) "IntervalPackerModel" "packedSize" "I") ∈ zx_WS := zx_r3 (List.mem_of_getElem? (i := 141) rfl) rfl
theorem fo_8_50_8 : zx_fOK 8 50 8 3 := ⟨"IntervalPackerModel", zt_R, 42, "IntervalPackerModel", rfl, by decide, wd_3_141, zu_R, Or.inl rfl⟩
theorem wd_3_139 : (Jvm.Cond.fieldLink "IntervalPackerModel" (53 : Nat) "IntervalPackerModel" "plainSize" "I") ∈ zx_WS := zx_r3 (List.mem_of_getElem? (i := 139) rfl) rfl
theorem fo_8_53_8 : zx_fOK 8 53 8 1 := ⟨"IntervalPackerModel", zt_R, 42, "IntervalPackerModel", rfl, by decide, wd_3_139, zu_R, Or.inl rfl⟩
theorem wd_3_143 : (Jvm.Cond.fieldLink "IntervalPackerModel" (68 : Nat) "IntervalPackerModel" "madeSize" "I") ∈ zx_WS := zx_r3 (List.mem_of_getElem? (i := 143) rfl) rfl
theorem fo_8_68_8 : zx_fOK 8 68 8 5 := ⟨"IntervalPackerModel", zt_R, 42, "IntervalPackerModel", rfl, by decide, wd_3_143, zu_R, Or.inl rfl⟩
theorem wd_3_167 : (Jvm.Cond.fieldLink "IntervalPackerModel" (74 : Nat) "IntervalPackerModel" "fault" "I") ∈ zx_WS := zx_r3 (List.mem_of_getElem? (i := 167) rfl) rfl
theorem fo_8_74_8 : zx_fOK 8 74 8 29 := ⟨"IntervalPackerModel", zt_R, 42, "IntervalPackerModel", rfl, by decide, wd_3_167, zu_R, Or.inl rfl⟩
theorem wd_3_166 : (Jvm.Cond.fieldLink "IntervalPackerModel" (77 : Nat) "IntervalPackerModel" "at" "I") ∈ zx_WS := zx_r3 (List.mem_of_getElem? (i := 166) rfl) rfl
theorem fo_8_77_8 : zx_fOK 8 77 8 28 := ⟨"IntervalPackerModel", zt_R, 42, "IntervalPackerModel", rfl, by decide, wd_3_166, zu_R, Or.inl rfl⟩
theorem wd_3_169 : (Jvm.Cond.fieldLink "IntervalPackerModel" (99 : Nat) "IntervalPackerModel" "sort" "I") ∈ zx_WS := zx_r3 (List.mem_of_getElem? (i := 169) rfl) rfl
theorem fo_8_99_8 : zx_fOK 8 99 8 31 := ⟨"IntervalPackerModel", zt_R, 42, "IntervalPackerModel", rfl, by decide, wd_3_169, zu_R, Or.inl rfl⟩
theorem wd_3_173 : (Jvm.Cond.fieldLink "IntervalPackerModel" (115 : Nat) "IntervalPackerModel" "emptied" "Z") ∈ zx_WS := zx_r3 (List.mem_of_getElem? (i := 173) rfl) rfl
theorem fo_8_115_8 : zx_fOK 8 115 8 35 := ⟨"IntervalPackerModel", zt_R, 42, "IntervalPackerModel", rfl, by decide, wd_3_173, zu_R, Or.inl rfl⟩
theorem wd_3_174 : (Jvm.Cond.fieldLink "IntervalPackerModel" (119 : Nat) "IntervalPackerModel" "bare" "Z") ∈ zx_WS := zx_r3 (List.mem_of_getElem? (i := 174) rfl) rfl
theorem fo_8_119_8 : zx_fOK 8 119 8 36 := ⟨"IntervalPackerModel", zt_R, 42, "IntervalPackerModel", rfl, by decide, wd_3_174, zu_R, Or.inl rfl⟩
theorem wd_3_170 : (Jvm.Cond.fieldLink "IntervalPackerModel" (136 : Nat) "IntervalPackerModel" "blocks" "I") ∈ zx_WS := zx_r3 (List.mem_of_getElem? (i := 170) rfl) rfl
theorem fo_8_136_8 : zx_fOK 8 136 8 32 := ⟨"IntervalPackerModel", zt_R, 42, "IntervalPackerModel", rfl, by decide, wd_3_170, zu_R, Or.inl rfl⟩
theorem wd_3_147 : (Jvm.Cond.fieldLink "IntervalPackerModel" (156 : Nat) "IntervalPackerModel" "lc" "I") ∈ zx_WS := zx_r3 (List.mem_of_getElem? (i := 147) rfl) rfl
theorem fo_8_156_8 : zx_fOK 8 156 8 9 := ⟨"IntervalPackerModel", zt_R, 42, "IntervalPackerModel", rfl, by decide, wd_3_147, zu_R, Or.inl rfl⟩
theorem wd_3_148 : (Jvm.Cond.fieldLink "IntervalPackerModel" (159 : Nat) "IntervalPackerModel" "lp" "I") ∈ zx_WS := zx_r3 (List.mem_of_getElem? (i := 148) rfl) rfl
theorem fo_8_159_8 : zx_fOK 8 159 8 10 := ⟨"IntervalPackerModel", zt_R, 42, "IntervalPackerModel", rfl, by decide, wd_3_148, zu_R, Or.inl rfl⟩
theorem wd_3_149 : (Jvm.Cond.fieldLink "IntervalPackerModel" (162 : Nat) "IntervalPackerModel" "pb" "I") ∈ zx_WS := zx_r3 (List.mem_of_getElem? (i := 149) rfl) rfl
theorem fo_8_162_8 : zx_fOK 8 162 8 11 := ⟨"IntervalPackerModel", zt_R, 42, "IntervalPackerModel", rfl, by decide, wd_3_149, zu_R, Or.inl rfl⟩
theorem wd_3_161 : (Jvm.Cond.fieldLink "IntervalPackerModel" (165 : Nat) "IntervalPackerModel" "first" "I") ∈ zx_WS := zx_r3 (List.mem_of_getElem? (i := 161) rfl) rfl
theorem fo_8_165_8 : zx_fOK 8 165 8 23 := ⟨"IntervalPackerModel", zt_R, 42, "IntervalPackerModel", rfl, by decide, wd_3_161, zu_R, Or.inl rfl⟩
theorem wd_3_155 : (Jvm.Cond.fieldLink "IntervalPackerModel" (171 : Nat) "IntervalPackerModel" "range" "J") ∈ zx_WS := zx_r3 (List.mem_of_getElem? (i := 155) rfl) rfl
theorem fo_8_171_8 : zx_fOK 8 171 8 17 := ⟨"IntervalPackerModel", zt_R, 42, "IntervalPackerModel", rfl, by decide, wd_3_155, zu_R, Or.inl rfl⟩
theorem wd_3_156 : (Jvm.Cond.fieldLink "IntervalPackerModel" (174 : Nat) "IntervalPackerModel" "code" "J") ∈ zx_WS := zx_r3 (List.mem_of_getElem? (i := 156) rfl) rfl
theorem fo_8_174_8 : zx_fOK 8 174 8 18 := ⟨"IntervalPackerModel", zt_R, 42, "IntervalPackerModel", rfl, by decide, wd_3_156, zu_R, Or.inl rfl⟩
theorem wd_3_157 : (Jvm.Cond.fieldLink "IntervalPackerModel" (177 : Nat) "IntervalPackerModel" "next" "I") ∈ zx_WS := zx_r3 (List.mem_of_getElem? (i := 157) rfl) rfl
theorem fo_8_177_8 : zx_fOK 8 177 8 19 := ⟨"IntervalPackerModel", zt_R, 42, "IntervalPackerModel", rfl, by decide, wd_3_157, zu_R, Or.inl rfl⟩
theorem wd_3_158 : (Jvm.Cond.fieldLink "IntervalPackerModel" (180 : Nat) "IntervalPackerModel" "end" "I") ∈ zx_WS := zx_r3 (List.mem_of_getElem? (i := 158) rfl) rfl
theorem fo_8_180_8 : zx_fOK 8 180 8 20 := ⟨"IntervalPackerModel", zt_R, 42, "IntervalPackerModel", rfl, by decide, wd_3_158, zu_R, Or.inl rfl⟩
theorem wd_3_159 : (Jvm.Cond.fieldLink "IntervalPackerModel" (183 : Nat) "IntervalPackerModel" "left" "I") ∈ zx_WS := zx_r3 (List.mem_of_getElem? (i := 159) rfl) rfl
theorem fo_8_183_8 : zx_fOK 8 183 8 21 := ⟨"IntervalPackerModel", zt_R, 42, "IntervalPackerModel", rfl, by decide, wd_3_159, zu_R, Or.inl rfl⟩
theorem wd_3_160 : (Jvm.Cond.fieldLink "IntervalPackerModel" (186 : Nat) "IntervalPackerModel" "bad" "Z") ∈ zx_WS := zx_r3 (List.mem_of_getElem? (i := 160) rfl) rfl
theorem fo_8_186_8 : zx_fOK 8 186 8 22 := ⟨"IntervalPackerModel", zt_R, 42, "IntervalPackerModel", rfl, by decide, wd_3_160, zu_R, Or.inl rfl⟩
theorem wd_3_175 : (Jvm.Cond.fieldLink "IntervalPackerModel" (198 : Nat) "IntervalPackerModel" "watched" "I") ∈ zx_WS := zx_r3 (List.mem_of_getElem? (i := 175) rfl) rfl
theorem fo_8_198_8 : zx_fOK 8 198 8 37 := ⟨"IntervalPackerModel", zt_R, 42, "IntervalPackerModel", rfl, by decide, wd_3_175, zu_R, Or.inl rfl⟩
theorem wd_3_176 : (Jvm.Cond.fieldLink "IntervalPackerModel" (201 : Nat) "IntervalPackerModel" "looked" "I") ∈ zx_WS := zx_r3 (List.mem_of_getElem? (i := 176) rfl) rfl
theorem fo_8_201_8 : zx_fOK 8 201 8 38 := ⟨"IntervalPackerModel", zt_R, 42, "IntervalPackerModel", rfl, by decide, wd_3_176, zu_R, Or.inl rfl⟩
theorem wd_3_150 : (Jvm.Cond.fieldLink "IntervalPackerModel" (213 : Nat) "IntervalPackerModel" "state" "I") ∈ zx_WS := zx_r3 (List.mem_of_getElem? (i := 150) rfl) rfl
theorem fo_8_213_8 : zx_fOK 8 213 8 12 := ⟨"IntervalPackerModel", zt_R, 42, "IntervalPackerModel", rfl, by decide, wd_3_150, zu_R, Or.inl rfl⟩
theorem wd_3_151 : (Jvm.Cond.fieldLink "IntervalPackerModel" (216 : Nat) "IntervalPackerModel" "r0" "J") ∈ zx_WS := zx_r3 (List.mem_of_getElem? (i := 151) rfl) rfl
theorem fo_8_216_8 : zx_fOK 8 216 8 13 := ⟨"IntervalPackerModel", zt_R, 42, "IntervalPackerModel", rfl, by decide, wd_3_151, zu_R, Or.inl rfl⟩
theorem wd_3_152 : (Jvm.Cond.fieldLink "IntervalPackerModel" (219 : Nat) "IntervalPackerModel" "r1" "J") ∈ zx_WS := zx_r3 (List.mem_of_getElem? (i := 152) rfl) rfl
theorem fo_8_219_8 : zx_fOK 8 219 8 14 := ⟨"IntervalPackerModel", zt_R, 42, "IntervalPackerModel", rfl, by decide, wd_3_152, zu_R, Or.inl rfl⟩
theorem wd_3_153 : (Jvm.Cond.fieldLink "IntervalPackerModel" (222 : Nat) "IntervalPackerModel" "r2" "J") ∈ zx_WS := zx_r3 (List.mem_of_getElem? (i := 153) rfl) rfl
theorem fo_8_222_8 : zx_fOK 8 222 8 15 := ⟨"IntervalPackerModel", zt_R, 42, "IntervalPackerModel", rfl, by decide, wd_3_153, zu_R, Or.inl rfl⟩
theorem wd_3_154 : (Jvm.Cond.fieldLink "IntervalPackerModel" (225 : Nat) "IntervalPackerModel" "r3" "J") ∈ zx_WS := zx_r3 (List.mem_of_getElem? (i := 154) rfl) rfl
theorem fo_8_225_8 : zx_fOK 8 225 8 16 := ⟨"IntervalPackerModel", zt_R, 42, "IntervalPackerModel", rfl, by decide, wd_3_154, zu_R, Or.inl rfl⟩
theorem wd_3_165 : (Jvm.Cond.fieldLink "IntervalPackerModel" (293 : Nat) "IntervalPackerModel" "lost" "Z") ∈ zx_WS := zx_r3 (List.mem_of_getElem? (i := 165) rfl) rfl
theorem fo_8_293_8 : zx_fOK 8 293 8 27 := ⟨"IntervalPackerModel", zt_R, 42, "IntervalPackerModel", rfl, by decide, wd_3_165, zu_R, Or.inl rfl⟩
theorem wd_3_163 : (Jvm.Cond.fieldLink "IntervalPackerModel" (296 : Nat) "IntervalPackerModel" "lowSize" "I") ∈ zx_WS := zx_r3 (List.mem_of_getElem? (i := 163) rfl) rfl
theorem fo_8_296_8 : zx_fOK 8 296 8 25 := ⟨"IntervalPackerModel", zt_R, 42, "IntervalPackerModel", rfl, by decide, wd_3_163, zu_R, Or.inl rfl⟩
theorem wd_3_164 : (Jvm.Cond.fieldLink "IntervalPackerModel" (299 : Nat) "IntervalPackerModel" "limit" "I") ∈ zx_WS := zx_r3 (List.mem_of_getElem? (i := 164) rfl) rfl
theorem fo_8_299_8 : zx_fOK 8 299 8 26 := ⟨"IntervalPackerModel", zt_R, 42, "IntervalPackerModel", rfl, by decide, wd_3_164, zu_R, Or.inl rfl⟩
theorem wd_3_145 : (Jvm.Cond.fieldLink "IntervalPackerModel" (340 : Nat) "IntervalPackerModel" "boxSize" "I") ∈ zx_WS := zx_r3 (List.mem_of_getElem? (i := 145) rfl) rfl
theorem fo_8_340_8 : zx_fOK 8 340 8 7 := ⟨"IntervalPackerModel", zt_R, 42, "IntervalPackerModel", rfl, by decide, wd_3_145, zu_R, Or.inl rfl⟩
theorem wd_0_74 : (Jvm.Cond.fieldLink "IntervalPacker$BitLine" (9 : Nat) "IntervalPacker$BitLine" "chances" "[I") ∈ zx_WS := zx_r0 (List.mem_of_getElem? (i := 74) rfl) rfl
theorem fo_9_9_3 : zx_fOK 9 9 3 0 := ⟨"IntervalPacker$BitSource", zt_Src, 12, "IntervalPacker$BitLine", rfl, by decide, wd_0_74, zu_Src, Or.inl rfl⟩
theorem fo_9_9_4 : zx_fOK 9 9 4 0 := ⟨"IntervalPacker$BitSink", zt_Snk, 6, "IntervalPacker$BitLine", rfl, by decide, wd_0_74, zu_Snk, Or.inl rfl⟩
def zx_ftab : List (Nat × Nat × Nat × Nat) := [(0, 14, 0, 0), (0, 18, 0, 1), (0, 26, 0, 2), (0, 40, 0, 3), (0, 52, 0, 4), (0, 67, 1, 1), (0, 79, 1, 0), (0, 115, 7, 0), (0, 118, 1, 2), (0, 144, 6, 1), (0, 153, 2, 4), (0, 156, 6, 0), (0, 159, 2, 5), (0, 162, 3, 9), (0, 165, 3, 10), (0, 169, 3, 11), (0, 172, 3, 8), (0, 175, 6, 2), (1, 9, 1, 0), (1, 15, 1, 1), (1, 19, 1, 2), (2, 9, 2, 0), (2, 15, 2, 5), (2, 19, 1, 0), (2, 22, 1, 1), (2, 25, 2, 1), (2, 26, 2, 2), (2, 29, 2, 3), (2, 32, 2, 4), (3, 11, 3, 10), (3, 17, 3, 11), (3, 20, 3, 3), (3, 24, 3, 8), (3, 28, 3, 4), (3, 31, 3, 5), (3, 36, 3, 1), (3, 39, 3, 6), (3, 42, 3, 2), (3, 46, 3, 7), (3, 55, 3, 0), (3, 65, 3, 9), (4, 9, 4, 3), (4, 21, 4, 5), (4, 25, 4, 2), (4, 29, 4, 4), (4, 34, 4, 1), (4, 50, 4, 0), (5, 9, 5, 1), (5, 15, 5, 0), (5, 19, 5, 6), (5, 23, 5, 3), (5, 27, 5, 4), (5, 30, 5, 5), (5, 42, 5, 2), (5, 49, 5, 7), (5, 56, 5, 8), (5, 59, 5, 9), (5, 69, 5, 10), (6, 14, 6, 0), (6, 23, 6, 1), (6, 27, 6, 2), (6, 31, 6, 5), (6, 35, 6, 6), (6, 38, 6, 3), (6, 42, 6, 4), (6, 71, 2, 0), (6, 78, 2, 3), (6, 82, 6, 7), (6, 96, 6, 8), (6, 99, 1, 1), (6, 102, 6, 9), (6, 105, 6, 13), (6, 109, 6, 14), (6, 122, 6, 15), (6, 155, 6, 10), (6, 159, 6, 11), (6, 172, 6, 12), (6, 179, 6, 16), (6, 182, 6, 17), (6, 227, 3, 2), (6, 234, 5, 7), (6, 240, 5, 8), (6, 246, 5, 9), (6, 260, 1, 0), (6, 268, 6, 18), (6, 271, 2, 1), (7, 14, 7, 0), (7, 20, 7, 3), (7, 24, 7, 1), (7, 28, 7, 2), (7, 32, 7, 4), (7, 35, 7, 5), (7, 39, 7, 6), (7, 55, 1, 0), (7, 66, 1, 1), (7, 69, 7, 7), (7, 72, 7, 10), (7, 76, 7, 11), (7, 79, 7, 12), (7, 82, 1, 2), (7, 99, 4, 4), (7, 102, 4, 3), (7, 108, 4, 2), (7, 144, 5, 9), (7, 159, 5, 8), (7, 162, 7, 15), (7, 165, 7, 13), (7, 168, 7, 16), (7, 171, 5, 7), (7, 174, 7, 14), (7, 177, 5, 10), (7, 189, 7, 8), (7, 206, 7, 9), (8, 7, 8, 0), (8, 13, 8, 2), (8, 16, 8, 4), (8, 19, 8, 6), (8, 22, 8, 8), (8, 25, 8, 24), (8, 28, 8, 30), (8, 32, 8, 33), (8, 35, 8, 34), (8, 40, 8, 39), (8, 44, 8, 40), (8, 47, 8, 41), (8, 50, 8, 3), (8, 53, 8, 1), (8, 68, 8, 5), (8, 74, 8, 29), (8, 77, 8, 28), (8, 99, 8, 31), (8, 115, 8, 35), (8, 119, 8, 36), (8, 136, 8, 32), (8, 156, 8, 9), (8, 159, 8, 10), (8, 162, 8, 11), (8, 165, 8, 23), (8, 171, 8, 17), (8, 174, 8, 18), (8, 177, 8, 19), (8, 180, 8, 20), (8, 183, 8, 21), (8, 186, 8, 22), (8, 198, 8, 37), (8, 201, 8, 38), (8, 213, 8, 12), (8, 216, 8, 13), (8, 219, 8, 14), (8, 222, 8, 15), (8, 225, 8, 16), (8, 293, 8, 27), (8, 296, 8, 25), (8, 299, 8, 26), (8, 340, 8, 7), (9, 9, 3, 0), (9, 9, 4, 0)]
theorem zx_ftab_g0 : ∀ q ∈ ([(0, 14, 0, 0), (0, 18, 0, 1), (0, 26, 0, 2), (0, 40, 0, 3), (0, 52, 0, 4), (0, 67, 1, 1), (0, 79, 1, 0), (0, 115, 7, 0), (0, 118, 1, 2), (0, 144, 6, 1), (0, 153, 2, 4), (0, 156, 6, 0), (0, 159, 2, 5), (0, 162, 3, 9), (0, 165, 3, 10), (0, 169, 3, 11)] : List (Nat × Nat × Nat × Nat)), zx_fOK q.1 q.2.1 q.2.2.1 q.2.2.2 := List.forall_mem_cons.mpr ⟨fo_0_14_0, List.forall_mem_cons.mpr ⟨fo_0_18_0, List.forall_mem_cons.mpr ⟨fo_0_26_0, List.forall_mem_cons.mpr ⟨fo_0_40_0, List.forall_mem_cons.mpr ⟨fo_0_52_0, List.forall_mem_cons.mpr ⟨fo_0_67_1, List.forall_mem_cons.mpr ⟨fo_0_79_1, List.forall_mem_cons.mpr ⟨fo_0_115_7, List.forall_mem_cons.mpr ⟨fo_0_118_1, List.forall_mem_cons.mpr ⟨fo_0_144_6, List.forall_mem_cons.mpr ⟨fo_0_153_2, List.forall_mem_cons.mpr ⟨fo_0_156_6, List.forall_mem_cons.mpr ⟨fo_0_159_2, List.forall_mem_cons.mpr ⟨fo_0_162_3, List.forall_mem_cons.mpr ⟨fo_0_165_3, List.forall_mem_cons.mpr ⟨fo_0_169_3, fun _ h => absurd h List.not_mem_nil⟩⟩⟩⟩⟩⟩⟩⟩⟩⟩⟩⟩⟩⟩⟩⟩
theorem zx_ftab_g1 : ∀ q ∈ ([(0, 172, 3, 8), (0, 175, 6, 2), (1, 9, 1, 0), (1, 15, 1, 1), (1, 19, 1, 2), (2, 9, 2, 0), (2, 15, 2, 5), (2, 19, 1, 0), (2, 22, 1, 1), (2, 25, 2, 1), (2, 26, 2, 2), (2, 29, 2, 3), (2, 32, 2, 4), (3, 11, 3, 10), (3, 17, 3, 11), (3, 20, 3, 3)] : List (Nat × Nat × Nat × Nat)), zx_fOK q.1 q.2.1 q.2.2.1 q.2.2.2 := List.forall_mem_cons.mpr ⟨fo_0_172_3, List.forall_mem_cons.mpr ⟨fo_0_175_6, List.forall_mem_cons.mpr ⟨fo_1_9_1, List.forall_mem_cons.mpr ⟨fo_1_15_1, List.forall_mem_cons.mpr ⟨fo_1_19_1, List.forall_mem_cons.mpr ⟨fo_2_9_2, List.forall_mem_cons.mpr ⟨fo_2_15_2, List.forall_mem_cons.mpr ⟨fo_2_19_1, List.forall_mem_cons.mpr ⟨fo_2_22_1, List.forall_mem_cons.mpr ⟨fo_2_25_2, List.forall_mem_cons.mpr ⟨fo_2_26_2, List.forall_mem_cons.mpr ⟨fo_2_29_2, List.forall_mem_cons.mpr ⟨fo_2_32_2, List.forall_mem_cons.mpr ⟨fo_3_11_3, List.forall_mem_cons.mpr ⟨fo_3_17_3, List.forall_mem_cons.mpr ⟨fo_3_20_3, fun _ h => absurd h List.not_mem_nil⟩⟩⟩⟩⟩⟩⟩⟩⟩⟩⟩⟩⟩⟩⟩⟩
theorem zx_ftab_g2 : ∀ q ∈ ([(3, 24, 3, 8), (3, 28, 3, 4), (3, 31, 3, 5), (3, 36, 3, 1), (3, 39, 3, 6), (3, 42, 3, 2), (3, 46, 3, 7), (3, 55, 3, 0), (3, 65, 3, 9), (4, 9, 4, 3), (4, 21, 4, 5), (4, 25, 4, 2), (4, 29, 4, 4), (4, 34, 4, 1), (4, 50, 4, 0), (5, 9, 5, 1)] : List (Nat × Nat × Nat × Nat)), zx_fOK q.1 q.2.1 q.2.2.1 q.2.2.2 := List.forall_mem_cons.mpr ⟨fo_3_24_3, List.forall_mem_cons.mpr ⟨fo_3_28_3, List.forall_mem_cons.mpr ⟨fo_3_31_3, List.forall_mem_cons.mpr ⟨fo_3_36_3, List.forall_mem_cons.mpr ⟨fo_3_39_3, List.forall_mem_cons.mpr ⟨fo_3_42_3, List.forall_mem_cons.mpr ⟨fo_3_46_3, List.forall_mem_cons.mpr ⟨fo_3_55_3, List.forall_mem_cons.mpr ⟨fo_3_65_3, List.forall_mem_cons.mpr ⟨fo_4_9_4, List.forall_mem_cons.mpr ⟨fo_4_21_4, List.forall_mem_cons.mpr ⟨fo_4_25_4, List.forall_mem_cons.mpr ⟨fo_4_29_4, List.forall_mem_cons.mpr ⟨fo_4_34_4, List.forall_mem_cons.mpr ⟨fo_4_50_4, List.forall_mem_cons.mpr ⟨fo_5_9_5, fun _ h => absurd h List.not_mem_nil⟩⟩⟩⟩⟩⟩⟩⟩⟩⟩⟩⟩⟩⟩⟩⟩
theorem zx_ftab_g3 : ∀ q ∈ ([(5, 15, 5, 0), (5, 19, 5, 6), (5, 23, 5, 3), (5, 27, 5, 4), (5, 30, 5, 5), (5, 42, 5, 2), (5, 49, 5, 7), (5, 56, 5, 8), (5, 59, 5, 9), (5, 69, 5, 10), (6, 14, 6, 0), (6, 23, 6, 1), (6, 27, 6, 2), (6, 31, 6, 5), (6, 35, 6, 6), (6, 38, 6, 3)] : List (Nat × Nat × Nat × Nat)), zx_fOK q.1 q.2.1 q.2.2.1 q.2.2.2 := List.forall_mem_cons.mpr ⟨fo_5_15_5, List.forall_mem_cons.mpr ⟨fo_5_19_5, List.forall_mem_cons.mpr ⟨fo_5_23_5, List.forall_mem_cons.mpr ⟨fo_5_27_5, List.forall_mem_cons.mpr ⟨fo_5_30_5, List.forall_mem_cons.mpr ⟨fo_5_42_5, List.forall_mem_cons.mpr ⟨fo_5_49_5, List.forall_mem_cons.mpr ⟨fo_5_56_5, List.forall_mem_cons.mpr ⟨fo_5_59_5, List.forall_mem_cons.mpr ⟨fo_5_69_5, List.forall_mem_cons.mpr ⟨fo_6_14_6, List.forall_mem_cons.mpr ⟨fo_6_23_6, List.forall_mem_cons.mpr ⟨fo_6_27_6, List.forall_mem_cons.mpr ⟨fo_6_31_6, List.forall_mem_cons.mpr ⟨fo_6_35_6, List.forall_mem_cons.mpr ⟨fo_6_38_6, fun _ h => absurd h List.not_mem_nil⟩⟩⟩⟩⟩⟩⟩⟩⟩⟩⟩⟩⟩⟩⟩⟩
theorem zx_ftab_g4 : ∀ q ∈ ([(6, 42, 6, 4), (6, 71, 2, 0), (6, 78, 2, 3), (6, 82, 6, 7), (6, 96, 6, 8), (6, 99, 1, 1), (6, 102, 6, 9), (6, 105, 6, 13), (6, 109, 6, 14), (6, 122, 6, 15), (6, 155, 6, 10), (6, 159, 6, 11), (6, 172, 6, 12), (6, 179, 6, 16), (6, 182, 6, 17), (6, 227, 3, 2)] : List (Nat × Nat × Nat × Nat)), zx_fOK q.1 q.2.1 q.2.2.1 q.2.2.2 := List.forall_mem_cons.mpr ⟨fo_6_42_6, List.forall_mem_cons.mpr ⟨fo_6_71_2, List.forall_mem_cons.mpr ⟨fo_6_78_2, List.forall_mem_cons.mpr ⟨fo_6_82_6, List.forall_mem_cons.mpr ⟨fo_6_96_6, List.forall_mem_cons.mpr ⟨fo_6_99_1, List.forall_mem_cons.mpr ⟨fo_6_102_6, List.forall_mem_cons.mpr ⟨fo_6_105_6, List.forall_mem_cons.mpr ⟨fo_6_109_6, List.forall_mem_cons.mpr ⟨fo_6_122_6, List.forall_mem_cons.mpr ⟨fo_6_155_6, List.forall_mem_cons.mpr ⟨fo_6_159_6, List.forall_mem_cons.mpr ⟨fo_6_172_6, List.forall_mem_cons.mpr ⟨fo_6_179_6, List.forall_mem_cons.mpr ⟨fo_6_182_6, List.forall_mem_cons.mpr ⟨fo_6_227_3, fun _ h => absurd h List.not_mem_nil⟩⟩⟩⟩⟩⟩⟩⟩⟩⟩⟩⟩⟩⟩⟩⟩
theorem zx_ftab_g5 : ∀ q ∈ ([(6, 234, 5, 7), (6, 240, 5, 8), (6, 246, 5, 9), (6, 260, 1, 0), (6, 268, 6, 18), (6, 271, 2, 1), (7, 14, 7, 0), (7, 20, 7, 3), (7, 24, 7, 1), (7, 28, 7, 2), (7, 32, 7, 4), (7, 35, 7, 5), (7, 39, 7, 6), (7, 55, 1, 0), (7, 66, 1, 1), (7, 69, 7, 7)] : List (Nat × Nat × Nat × Nat)), zx_fOK q.1 q.2.1 q.2.2.1 q.2.2.2 := List.forall_mem_cons.mpr ⟨fo_6_234_5, List.forall_mem_cons.mpr ⟨fo_6_240_5, List.forall_mem_cons.mpr ⟨fo_6_246_5, List.forall_mem_cons.mpr ⟨fo_6_260_1, List.forall_mem_cons.mpr ⟨fo_6_268_6, List.forall_mem_cons.mpr ⟨fo_6_271_2, List.forall_mem_cons.mpr ⟨fo_7_14_7, List.forall_mem_cons.mpr ⟨fo_7_20_7, List.forall_mem_cons.mpr ⟨fo_7_24_7, List.forall_mem_cons.mpr ⟨fo_7_28_7, List.forall_mem_cons.mpr ⟨fo_7_32_7, List.forall_mem_cons.mpr ⟨fo_7_35_7, List.forall_mem_cons.mpr ⟨fo_7_39_7, List.forall_mem_cons.mpr ⟨fo_7_55_1, List.forall_mem_cons.mpr ⟨fo_7_66_1, List.forall_mem_cons.mpr ⟨fo_7_69_7, fun _ h => absurd h List.not_mem_nil⟩⟩⟩⟩⟩⟩⟩⟩⟩⟩⟩⟩⟩⟩⟩⟩
theorem zx_ftab_g6 : ∀ q ∈ ([(7, 72, 7, 10), (7, 76, 7, 11), (7, 79, 7, 12), (7, 82, 1, 2), (7, 99, 4, 4), (7, 102, 4, 3), (7, 108, 4, 2), (7, 144, 5, 9), (7, 159, 5, 8), (7, 162, 7, 15), (7, 165, 7, 13), (7, 168, 7, 16), (7, 171, 5, 7), (7, 174, 7, 14), (7, 177, 5, 10), (7, 189, 7, 8)] : List (Nat × Nat × Nat × Nat)), zx_fOK q.1 q.2.1 q.2.2.1 q.2.2.2 := List.forall_mem_cons.mpr ⟨fo_7_72_7, List.forall_mem_cons.mpr ⟨fo_7_76_7, List.forall_mem_cons.mpr ⟨fo_7_79_7, List.forall_mem_cons.mpr ⟨fo_7_82_1, List.forall_mem_cons.mpr ⟨fo_7_99_4, List.forall_mem_cons.mpr ⟨fo_7_102_4, List.forall_mem_cons.mpr ⟨fo_7_108_4, List.forall_mem_cons.mpr ⟨fo_7_144_5, List.forall_mem_cons.mpr ⟨fo_7_159_5, List.forall_mem_cons.mpr ⟨fo_7_162_7, List.forall_mem_cons.mpr ⟨fo_7_165_7, List.forall_mem_cons.mpr ⟨fo_7_168_7, List.forall_mem_cons.mpr ⟨fo_7_171_5, List.forall_mem_cons.mpr ⟨fo_7_174_7, List.forall_mem_cons.mpr ⟨fo_7_177_5, List.forall_mem_cons.mpr ⟨fo_7_189_7, fun _ h => absurd h List.not_mem_nil⟩⟩⟩⟩⟩⟩⟩⟩⟩⟩⟩⟩⟩⟩⟩⟩
theorem zx_ftab_g7 : ∀ q ∈ ([(7, 206, 7, 9), (8, 7, 8, 0), (8, 13, 8, 2), (8, 16, 8, 4), (8, 19, 8, 6), (8, 22, 8, 8), (8, 25, 8, 24), (8, 28, 8, 30), (8, 32, 8, 33), (8, 35, 8, 34), (8, 40, 8, 39), (8, 44, 8, 40), (8, 47, 8, 41), (8, 50, 8, 3), (8, 53, 8, 1), (8, 68, 8, 5)] : List (Nat × Nat × Nat × Nat)), zx_fOK q.1 q.2.1 q.2.2.1 q.2.2.2 := List.forall_mem_cons.mpr ⟨fo_7_206_7, List.forall_mem_cons.mpr ⟨fo_8_7_8, List.forall_mem_cons.mpr ⟨fo_8_13_8, List.forall_mem_cons.mpr ⟨fo_8_16_8, List.forall_mem_cons.mpr ⟨fo_8_19_8, List.forall_mem_cons.mpr ⟨fo_8_22_8, List.forall_mem_cons.mpr ⟨fo_8_25_8, List.forall_mem_cons.mpr ⟨fo_8_28_8, List.forall_mem_cons.mpr ⟨fo_8_32_8, List.forall_mem_cons.mpr ⟨fo_8_35_8, List.forall_mem_cons.mpr ⟨fo_8_40_8, List.forall_mem_cons.mpr ⟨fo_8_44_8, List.forall_mem_cons.mpr ⟨fo_8_47_8, List.forall_mem_cons.mpr ⟨fo_8_50_8, List.forall_mem_cons.mpr ⟨fo_8_53_8, List.forall_mem_cons.mpr ⟨fo_8_68_8, fun _ h => absurd h List.not_mem_nil⟩⟩⟩⟩⟩⟩⟩⟩⟩⟩⟩⟩⟩⟩⟩⟩
theorem zx_ftab_g8 : ∀ q ∈ ([(8, 74, 8, 29), (8, 77, 8, 28), (8, 99, 8, 31), (8, 115, 8, 35), (8, 119, 8, 36), (8, 136, 8, 32), (8, 156, 8, 9), (8, 159, 8, 10), (8, 162, 8, 11), (8, 165, 8, 23), (8, 171, 8, 17), (8, 174, 8, 18), (8, 177, 8, 19), (8, 180, 8, 20), (8, 183, 8, 21), (8, 186, 8, 22)] : List (Nat × Nat × Nat × Nat)), zx_fOK q.1 q.2.1 q.2.2.1 q.2.2.2 := List.forall_mem_cons.mpr ⟨fo_8_74_8, List.forall_mem_cons.mpr ⟨fo_8_77_8, List.forall_mem_cons.mpr ⟨fo_8_99_8, List.forall_mem_cons.mpr ⟨fo_8_115_8, List.forall_mem_cons.mpr ⟨fo_8_119_8, List.forall_mem_cons.mpr ⟨fo_8_136_8, List.forall_mem_cons.mpr ⟨fo_8_156_8, List.forall_mem_cons.mpr ⟨fo_8_159_8, List.forall_mem_cons.mpr ⟨fo_8_162_8, List.forall_mem_cons.mpr ⟨fo_8_165_8, List.forall_mem_cons.mpr ⟨fo_8_171_8, List.forall_mem_cons.mpr ⟨fo_8_174_8, List.forall_mem_cons.mpr ⟨fo_8_177_8, List.forall_mem_cons.mpr ⟨fo_8_180_8, List.forall_mem_cons.mpr ⟨fo_8_183_8, List.forall_mem_cons.mpr ⟨fo_8_186_8, fun _ h => absurd h List.not_mem_nil⟩⟩⟩⟩⟩⟩⟩⟩⟩⟩⟩⟩⟩⟩⟩⟩
theorem zx_ftab_g9 : ∀ q ∈ ([(8, 198, 8, 37), (8, 201, 8, 38), (8, 213, 8, 12), (8, 216, 8, 13), (8, 219, 8, 14), (8, 222, 8, 15), (8, 225, 8, 16), (8, 293, 8, 27), (8, 296, 8, 25), (8, 299, 8, 26), (8, 340, 8, 7), (9, 9, 3, 0), (9, 9, 4, 0)] : List (Nat × Nat × Nat × Nat)), zx_fOK q.1 q.2.1 q.2.2.1 q.2.2.2 := List.forall_mem_cons.mpr ⟨fo_8_198_8, List.forall_mem_cons.mpr ⟨fo_8_201_8, List.forall_mem_cons.mpr ⟨fo_8_213_8, List.forall_mem_cons.mpr ⟨fo_8_216_8, List.forall_mem_cons.mpr ⟨fo_8_219_8, List.forall_mem_cons.mpr ⟨fo_8_222_8, List.forall_mem_cons.mpr ⟨fo_8_225_8, List.forall_mem_cons.mpr ⟨fo_8_293_8, List.forall_mem_cons.mpr ⟨fo_8_296_8, List.forall_mem_cons.mpr ⟨fo_8_299_8, List.forall_mem_cons.mpr ⟨fo_8_340_8, List.forall_mem_cons.mpr ⟨fo_9_9_3, List.forall_mem_cons.mpr ⟨fo_9_9_4, fun _ h => absurd h List.not_mem_nil⟩⟩⟩⟩⟩⟩⟩⟩⟩⟩⟩⟩⟩
theorem zx_ftab_ok : ∀ q ∈ zx_ftab, zx_fOK q.1 q.2.1 q.2.2.1 q.2.2.2 := List.forall_mem_append.mpr ⟨zx_ftab_g0, List.forall_mem_append.mpr ⟨zx_ftab_g1, List.forall_mem_append.mpr ⟨zx_ftab_g2, List.forall_mem_append.mpr ⟨zx_ftab_g3, List.forall_mem_append.mpr ⟨zx_ftab_g4, List.forall_mem_append.mpr ⟨zx_ftab_g5, List.forall_mem_append.mpr ⟨zx_ftab_g6, List.forall_mem_append.mpr ⟨zx_ftab_g7, List.forall_mem_append.mpr ⟨zx_ftab_g8, zx_ftab_g9⟩⟩⟩⟩⟩⟩⟩⟩⟩
def zx_tk (kd : Option Nat) (ty : FieldType) : Prop := match kd with
  | some 0 => ty = .int
  | some 1 => ty = .long
  | some 2 => (∃ c, ty = .object c) ∨ ∃ t, ty = .array t
  | some 3 => ty = .boolean
  | _ => False
def zx_pOK (ci k : Nat) : Prop := ∃ (C : String) (T : u_T) (N : Nat) (ty0 : Nat → FieldType) (ty : FieldType), zx_cl[ci]? = some (C, T, N) ∧ (∀ k, k < N → parseFieldDescriptor (T k).2.2.1 = some (ty0 k)) ∧ (∀ a, a < N → ∀ b, b < N → a ≠ b → (T a).2.1 ≠ (T b).2.1) ∧ (T k).2.2.2 = false ∧ parseFieldDescriptor (T k).2.2.1 = some ty ∧ zx_tk ((zx_kd ci)[k]?) ty
def zy_P : Nat → FieldType := fun k => match k with
  | 0 => .object "IntervalPacker$Row"
  | 1 => .object "IntervalPacker$Row"
  | 2 => .object "IntervalPacker$BitSource"
  | 3 => .object "IntervalPacker$Unpacking"
  | _ => .object "IntervalPacker$Packing"
theorem zy_P_ok : ∀ k, k < 5 → parseFieldDescriptor (zt_P k).2.2.1 = some (zy_P k) := by decide +kernel
theorem zm_P : ∀ a, a < 5 → ∀ b, b < 5 → a ≠ b → (zt_P a).2.1 ≠ (zt_P b).2.1 := by decide +kernel
def zy_Row : Nat → FieldType := fun k => match k with
  | 0 => .array .int
  | 1 => .int
  | _ => .boolean
theorem zy_Row_ok : ∀ k, k < 3 → parseFieldDescriptor (zt_Row k).2.2.1 = some (zy_Row k) := by decide +kernel
theorem zm_Row : ∀ a, a < 3 → ∀ b, b < 3 → a ≠ b → (zt_Row a).2.1 ≠ (zt_Row b).2.1 := by decide +kernel
def zy_Cur : Nat → FieldType := fun k => match k with
  | 0 => .array .int
  | 1 => .int
  | 2 => .int
  | 3 => .int
  | 4 => .int
  | _ => .int
theorem zy_Cur_ok : ∀ k, k < 6 → parseFieldDescriptor (zt_Cur k).2.2.1 = some (zy_Cur k) := by decide +kernel
theorem zm_Cur : ∀ a, a < 6 → ∀ b, b < 6 → a ≠ b → (zt_Cur a).2.1 ≠ (zt_Cur b).2.1 := by decide +kernel
def zy_Src : Nat → FieldType := fun k => match k with
  | 0 => .array .int
  | 1 => .long
  | 2 => .boolean
  | 3 => .array .int
  | 4 => .int
  | 5 => .int
  | 6 => .long
  | 7 => .boolean
  | 8 => .int
  | 9 => .int
  | 10 => .long
  | _ => .long
theorem zy_Src_ok : ∀ k, k < 12 → parseFieldDescriptor (zt_Src k).2.2.1 = some (zy_Src k) := by decide +kernel
theorem zm_Src : ∀ a, a < 12 → ∀ b, b < 12 → a ≠ b → (zt_Src a).2.1 ≠ (zt_Src b).2.1 := by decide +kernel
def zy_Snk : Nat → FieldType := fun k => match k with
  | 0 => .array .int
  | 1 => .long
  | 2 => .boolean
  | 3 => .array .int
  | 4 => .int
  | _ => .int
theorem zy_Snk_ok : ∀ k, k < 6 → parseFieldDescriptor (zt_Snk k).2.2.1 = some (zy_Snk k) := by decide +kernel
theorem zm_Snk : ∀ a, a < 6 → ∀ b, b < 6 → a ≠ b → (zt_Snk a).2.1 ≠ (zt_Snk b).2.1 := by decide +kernel
def zy_Mdl : Nat → FieldType := fun k => match k with
  | 0 => .array .int
  | 1 => .array .long
  | 2 => .int
  | 3 => .int
  | 4 => .int
  | 5 => .int
  | 6 => .object "IntervalPacker$BitLine"
  | 7 => .int
  | 8 => .int
  | 9 => .int
  | _ => .long
theorem zy_Mdl_ok : ∀ k, k < 11 → parseFieldDescriptor (zt_Mdl k).2.2.1 = some (zy_Mdl k) := by decide +kernel
theorem zm_Mdl : ∀ a, a < 11 → ∀ b, b < 11 → a ≠ b → (zt_Mdl a).2.1 ≠ (zt_Mdl b).2.1 := by decide +kernel
def zy_Unp : Nat → FieldType := fun k => match k with
  | 0 => .object "IntervalPacker$Row"
  | 1 => .object "IntervalPacker$Cursor"
  | 2 => .array .int
  | 3 => .object "IntervalPacker$Model"
  | 4 => .object "IntervalPacker$BitSource"
  | 5 => .array .long
  | 6 => .array .long
  | 7 => .int
  | 8 => .int
  | 9 => .int
  | 10 => .long
  | 11 => .long
  | 12 => .int
  | 13 => .boolean
  | 14 => .boolean
  | 15 => .int
  | 16 => .int
  | 17 => .int
  | _ => .int
theorem zy_Unp_ok : ∀ k, k < 19 → parseFieldDescriptor (zt_Unp k).2.2.1 = some (zy_Unp k) := by decide +kernel
theorem zm_Unp : ∀ a, a < 19 → ∀ b, b < 19 → a ≠ b → (zt_Unp a).2.1 ≠ (zt_Unp b).2.1 := by decide +kernel
def zy_Pkg : Nat → FieldType := fun k => match k with
  | 0 => .object "IntervalPacker$Row"
  | 1 => .object "IntervalPacker$Model"
  | 2 => .object "IntervalPacker$BitSink"
  | 3 => .array .int
  | 4 => .object "IntervalPacker$Row"
  | 5 => .int
  | 6 => .int
  | 7 => .int
  | 8 => .long
  | 9 => .int
  | 10 => .boolean
  | 11 => .boolean
  | 12 => .boolean
  | 13 => .int
  | 14 => .int
  | 15 => .int
  | _ => .int
theorem zy_Pkg_ok : ∀ k, k < 17 → parseFieldDescriptor (zt_Pkg k).2.2.1 = some (zy_Pkg k) := by decide +kernel
theorem zm_Pkg : ∀ a, a < 17 → ∀ b, b < 17 → a ≠ b → (zt_Pkg a).2.1 ≠ (zt_Pkg b).2.1 := by decide +kernel
def zy_R : Nat → FieldType := fun k => match k with
  | 0 => .array .int
  | 1 => .int
  | 2 => .array .int
  | 3 => .int
  | 4 => .array .int
  | 5 => .int
  | 6 => .array .int
  | 7 => .int
  | 8 => .array .int
  | 9 => .int
  | 10 => .int
  | 11 => .int
  | 12 => .int
  | 13 => .long
  | 14 => .long
  | 15 => .long
  | 16 => .long
  | 17 => .long
  | 18 => .long
  | 19 => .int
  | 20 => .int
  | 21 => .int
  | 22 => .boolean
  | 23 => .int
  | 24 => .array .int
  | 25 => .int
  | 26 => .int
  | 27 => .boolean
  | 28 => .int
  | 29 => .int
  | 30 => .int
  | 31 => .int
  | 32 => .int
  | 33 => .array .int
  | 34 => .array .int
  | 35 => .boolean
  | 36 => .boolean
  | 37 => .int
  | 38 => .int
  | 39 => .long
  | 40 => .long
  | _ => .array .int
theorem zy_R_ok : ∀ k, k < 42 → parseFieldDescriptor (zt_R k).2.2.1 = some (zy_R k) := by decide +kernel
theorem zm_R : ∀ a, a < 42 → ∀ b, b < 42 → a ≠ b → (zt_R a).2.1 ≠ (zt_R b).2.1 := by decide +kernel
theorem po_1_1 : zx_pOK 1 1 := ⟨"IntervalPacker$Row", zt_Row, 3, zy_Row, .int, rfl, zy_Row_ok, zm_Row, rfl, by decide +kernel, rfl⟩
theorem po_1_2 : zx_pOK 1 2 := ⟨"IntervalPacker$Row", zt_Row, 3, zy_Row, .boolean, rfl, zy_Row_ok, zm_Row, rfl, by decide +kernel, rfl⟩
theorem po_2_0 : zx_pOK 2 0 := ⟨"IntervalPacker$Cursor", zt_Cur, 6, zy_Cur, .array .int, rfl, zy_Cur_ok, zm_Cur, rfl, by decide +kernel, Or.inr ⟨_, rfl⟩⟩
theorem po_2_1 : zx_pOK 2 1 := ⟨"IntervalPacker$Cursor", zt_Cur, 6, zy_Cur, .int, rfl, zy_Cur_ok, zm_Cur, rfl, by decide +kernel, rfl⟩
theorem po_2_2 : zx_pOK 2 2 := ⟨"IntervalPacker$Cursor", zt_Cur, 6, zy_Cur, .int, rfl, zy_Cur_ok, zm_Cur, rfl, by decide +kernel, rfl⟩
theorem po_2_3 : zx_pOK 2 3 := ⟨"IntervalPacker$Cursor", zt_Cur, 6, zy_Cur, .int, rfl, zy_Cur_ok, zm_Cur, rfl, by decide +kernel, rfl⟩
theorem po_2_4 : zx_pOK 2 4 := ⟨"IntervalPacker$Cursor", zt_Cur, 6, zy_Cur, .int, rfl, zy_Cur_ok, zm_Cur, rfl, by decide +kernel, rfl⟩
theorem po_2_5 : zx_pOK 2 5 := ⟨"IntervalPacker$Cursor", zt_Cur, 6, zy_Cur, .int, rfl, zy_Cur_ok, zm_Cur, rfl, by decide +kernel, rfl⟩
theorem po_3_1 : zx_pOK 3 1 := ⟨"IntervalPacker$BitSource", zt_Src, 12, zy_Src, .long, rfl, zy_Src_ok, zm_Src, rfl, by decide +kernel, rfl⟩
theorem po_3_2 : zx_pOK 3 2 := ⟨"IntervalPacker$BitSource", zt_Src, 12, zy_Src, .boolean, rfl, zy_Src_ok, zm_Src, rfl, by decide +kernel, rfl⟩
theorem po_3_3 : zx_pOK 3 3 := ⟨"IntervalPacker$BitSource", zt_Src, 12, zy_Src, .array .int, rfl, zy_Src_ok, zm_Src, rfl, by decide +kernel, Or.inr ⟨_, rfl⟩⟩
theorem po_3_4 : zx_pOK 3 4 := ⟨"IntervalPacker$BitSource", zt_Src, 12, zy_Src, .int, rfl, zy_Src_ok, zm_Src, rfl, by decide +kernel, rfl⟩
theorem po_3_5 : zx_pOK 3 5 := ⟨"IntervalPacker$BitSource", zt_Src, 12, zy_Src, .int, rfl, zy_Src_ok, zm_Src, rfl, by decide +kernel, rfl⟩
theorem po_3_6 : zx_pOK 3 6 := ⟨"IntervalPacker$BitSource", zt_Src, 12, zy_Src, .long, rfl, zy_Src_ok, zm_Src, rfl, by decide +kernel, rfl⟩
theorem po_3_7 : zx_pOK 3 7 := ⟨"IntervalPacker$BitSource", zt_Src, 12, zy_Src, .boolean, rfl, zy_Src_ok, zm_Src, rfl, by decide +kernel, rfl⟩
theorem po_3_8 : zx_pOK 3 8 := ⟨"IntervalPacker$BitSource", zt_Src, 12, zy_Src, .int, rfl, zy_Src_ok, zm_Src, rfl, by decide +kernel, rfl⟩
theorem po_3_9 : zx_pOK 3 9 := ⟨"IntervalPacker$BitSource", zt_Src, 12, zy_Src, .int, rfl, zy_Src_ok, zm_Src, rfl, by decide +kernel, rfl⟩
theorem po_3_10 : zx_pOK 3 10 := ⟨"IntervalPacker$BitSource", zt_Src, 12, zy_Src, .long, rfl, zy_Src_ok, zm_Src, rfl, by decide +kernel, rfl⟩
theorem po_3_11 : zx_pOK 3 11 := ⟨"IntervalPacker$BitSource", zt_Src, 12, zy_Src, .long, rfl, zy_Src_ok, zm_Src, rfl, by decide +kernel, rfl⟩
theorem po_4_1 : zx_pOK 4 1 := ⟨"IntervalPacker$BitSink", zt_Snk, 6, zy_Snk, .long, rfl, zy_Snk_ok, zm_Snk, rfl, by decide +kernel, rfl⟩
theorem po_4_2 : zx_pOK 4 2 := ⟨"IntervalPacker$BitSink", zt_Snk, 6, zy_Snk, .boolean, rfl, zy_Snk_ok, zm_Snk, rfl, by decide +kernel, rfl⟩
theorem po_4_4 : zx_pOK 4 4 := ⟨"IntervalPacker$BitSink", zt_Snk, 6, zy_Snk, .int, rfl, zy_Snk_ok, zm_Snk, rfl, by decide +kernel, rfl⟩
theorem po_4_5 : zx_pOK 4 5 := ⟨"IntervalPacker$BitSink", zt_Snk, 6, zy_Snk, .int, rfl, zy_Snk_ok, zm_Snk, rfl, by decide +kernel, rfl⟩
theorem po_5_2 : zx_pOK 5 2 := ⟨"IntervalPacker$Model", zt_Mdl, 11, zy_Mdl, .int, rfl, zy_Mdl_ok, zm_Mdl, rfl, by decide +kernel, rfl⟩
theorem po_5_3 : zx_pOK 5 3 := ⟨"IntervalPacker$Model", zt_Mdl, 11, zy_Mdl, .int, rfl, zy_Mdl_ok, zm_Mdl, rfl, by decide +kernel, rfl⟩
theorem po_5_4 : zx_pOK 5 4 := ⟨"IntervalPacker$Model", zt_Mdl, 11, zy_Mdl, .int, rfl, zy_Mdl_ok, zm_Mdl, rfl, by decide +kernel, rfl⟩
theorem po_5_5 : zx_pOK 5 5 := ⟨"IntervalPacker$Model", zt_Mdl, 11, zy_Mdl, .int, rfl, zy_Mdl_ok, zm_Mdl, rfl, by decide +kernel, rfl⟩
theorem po_5_6 : zx_pOK 5 6 := ⟨"IntervalPacker$Model", zt_Mdl, 11, zy_Mdl, .object "IntervalPacker$BitLine", rfl, zy_Mdl_ok, zm_Mdl, rfl, by decide +kernel, Or.inl ⟨_, rfl⟩⟩
theorem po_5_7 : zx_pOK 5 7 := ⟨"IntervalPacker$Model", zt_Mdl, 11, zy_Mdl, .int, rfl, zy_Mdl_ok, zm_Mdl, rfl, by decide +kernel, rfl⟩
theorem po_5_8 : zx_pOK 5 8 := ⟨"IntervalPacker$Model", zt_Mdl, 11, zy_Mdl, .int, rfl, zy_Mdl_ok, zm_Mdl, rfl, by decide +kernel, rfl⟩
theorem po_5_9 : zx_pOK 5 9 := ⟨"IntervalPacker$Model", zt_Mdl, 11, zy_Mdl, .int, rfl, zy_Mdl_ok, zm_Mdl, rfl, by decide +kernel, rfl⟩
theorem po_5_10 : zx_pOK 5 10 := ⟨"IntervalPacker$Model", zt_Mdl, 11, zy_Mdl, .long, rfl, zy_Mdl_ok, zm_Mdl, rfl, by decide +kernel, rfl⟩
theorem po_6_7 : zx_pOK 6 7 := ⟨"IntervalPacker$Unpacking", zt_Unp, 19, zy_Unp, .int, rfl, zy_Unp_ok, zm_Unp, rfl, by decide +kernel, rfl⟩
theorem po_6_8 : zx_pOK 6 8 := ⟨"IntervalPacker$Unpacking", zt_Unp, 19, zy_Unp, .int, rfl, zy_Unp_ok, zm_Unp, rfl, by decide +kernel, rfl⟩
theorem po_6_9 : zx_pOK 6 9 := ⟨"IntervalPacker$Unpacking", zt_Unp, 19, zy_Unp, .int, rfl, zy_Unp_ok, zm_Unp, rfl, by decide +kernel, rfl⟩
theorem po_6_10 : zx_pOK 6 10 := ⟨"IntervalPacker$Unpacking", zt_Unp, 19, zy_Unp, .long, rfl, zy_Unp_ok, zm_Unp, rfl, by decide +kernel, rfl⟩
theorem po_6_11 : zx_pOK 6 11 := ⟨"IntervalPacker$Unpacking", zt_Unp, 19, zy_Unp, .long, rfl, zy_Unp_ok, zm_Unp, rfl, by decide +kernel, rfl⟩
theorem po_6_12 : zx_pOK 6 12 := ⟨"IntervalPacker$Unpacking", zt_Unp, 19, zy_Unp, .int, rfl, zy_Unp_ok, zm_Unp, rfl, by decide +kernel, rfl⟩
theorem po_6_13 : zx_pOK 6 13 := ⟨"IntervalPacker$Unpacking", zt_Unp, 19, zy_Unp, .boolean, rfl, zy_Unp_ok, zm_Unp, rfl, by decide +kernel, rfl⟩
theorem po_6_14 : zx_pOK 6 14 := ⟨"IntervalPacker$Unpacking", zt_Unp, 19, zy_Unp, .boolean, rfl, zy_Unp_ok, zm_Unp, rfl, by decide +kernel, rfl⟩
theorem po_6_15 : zx_pOK 6 15 := ⟨"IntervalPacker$Unpacking", zt_Unp, 19, zy_Unp, .int, rfl, zy_Unp_ok, zm_Unp, rfl, by decide +kernel, rfl⟩
theorem po_6_16 : zx_pOK 6 16 := ⟨"IntervalPacker$Unpacking", zt_Unp, 19, zy_Unp, .int, rfl, zy_Unp_ok, zm_Unp, rfl, by decide +kernel, rfl⟩
theorem po_6_17 : zx_pOK 6 17 := ⟨"IntervalPacker$Unpacking", zt_Unp, 19, zy_Unp, .int, rfl, zy_Unp_ok, zm_Unp, rfl, by decide +kernel, rfl⟩
theorem po_6_18 : zx_pOK 6 18 := ⟨"IntervalPacker$Unpacking", zt_Unp, 19, zy_Unp, .int, rfl, zy_Unp_ok, zm_Unp, rfl, by decide +kernel, rfl⟩
theorem po_7_4 : zx_pOK 7 4 := ⟨"IntervalPacker$Packing", zt_Pkg, 17, zy_Pkg, .object "IntervalPacker$Row", rfl, zy_Pkg_ok, zm_Pkg, rfl, by decide +kernel, Or.inl ⟨_, rfl⟩⟩
theorem po_7_5 : zx_pOK 7 5 := ⟨"IntervalPacker$Packing", zt_Pkg, 17, zy_Pkg, .int, rfl, zy_Pkg_ok, zm_Pkg, rfl, by decide +kernel, rfl⟩
theorem po_7_6 : zx_pOK 7 6 := ⟨"IntervalPacker$Packing", zt_Pkg, 17, zy_Pkg, .int, rfl, zy_Pkg_ok, zm_Pkg, rfl, by decide +kernel, rfl⟩
theorem po_7_7 : zx_pOK 7 7 := ⟨"IntervalPacker$Packing", zt_Pkg, 17, zy_Pkg, .int, rfl, zy_Pkg_ok, zm_Pkg, rfl, by decide +kernel, rfl⟩
theorem po_7_8 : zx_pOK 7 8 := ⟨"IntervalPacker$Packing", zt_Pkg, 17, zy_Pkg, .long, rfl, zy_Pkg_ok, zm_Pkg, rfl, by decide +kernel, rfl⟩
theorem po_7_9 : zx_pOK 7 9 := ⟨"IntervalPacker$Packing", zt_Pkg, 17, zy_Pkg, .int, rfl, zy_Pkg_ok, zm_Pkg, rfl, by decide +kernel, rfl⟩
theorem po_7_10 : zx_pOK 7 10 := ⟨"IntervalPacker$Packing", zt_Pkg, 17, zy_Pkg, .boolean, rfl, zy_Pkg_ok, zm_Pkg, rfl, by decide +kernel, rfl⟩
theorem po_7_11 : zx_pOK 7 11 := ⟨"IntervalPacker$Packing", zt_Pkg, 17, zy_Pkg, .boolean, rfl, zy_Pkg_ok, zm_Pkg, rfl, by decide +kernel, rfl⟩
theorem po_7_12 : zx_pOK 7 12 := ⟨"IntervalPacker$Packing", zt_Pkg, 17, zy_Pkg, .boolean, rfl, zy_Pkg_ok, zm_Pkg, rfl, by decide +kernel, rfl⟩
theorem po_7_13 : zx_pOK 7 13 := ⟨"IntervalPacker$Packing", zt_Pkg, 17, zy_Pkg, .int, rfl, zy_Pkg_ok, zm_Pkg, rfl, by decide +kernel, rfl⟩
theorem po_7_14 : zx_pOK 7 14 := ⟨"IntervalPacker$Packing", zt_Pkg, 17, zy_Pkg, .int, rfl, zy_Pkg_ok, zm_Pkg, rfl, by decide +kernel, rfl⟩
theorem po_7_15 : zx_pOK 7 15 := ⟨"IntervalPacker$Packing", zt_Pkg, 17, zy_Pkg, .int, rfl, zy_Pkg_ok, zm_Pkg, rfl, by decide +kernel, rfl⟩
theorem po_7_16 : zx_pOK 7 16 := ⟨"IntervalPacker$Packing", zt_Pkg, 17, zy_Pkg, .int, rfl, zy_Pkg_ok, zm_Pkg, rfl, by decide +kernel, rfl⟩
theorem po_8_1 : zx_pOK 8 1 := ⟨"IntervalPackerModel", zt_R, 42, zy_R, .int, rfl, zy_R_ok, zm_R, rfl, by decide +kernel, rfl⟩
theorem po_8_3 : zx_pOK 8 3 := ⟨"IntervalPackerModel", zt_R, 42, zy_R, .int, rfl, zy_R_ok, zm_R, rfl, by decide +kernel, rfl⟩
theorem po_8_5 : zx_pOK 8 5 := ⟨"IntervalPackerModel", zt_R, 42, zy_R, .int, rfl, zy_R_ok, zm_R, rfl, by decide +kernel, rfl⟩
theorem po_8_7 : zx_pOK 8 7 := ⟨"IntervalPackerModel", zt_R, 42, zy_R, .int, rfl, zy_R_ok, zm_R, rfl, by decide +kernel, rfl⟩
theorem po_8_9 : zx_pOK 8 9 := ⟨"IntervalPackerModel", zt_R, 42, zy_R, .int, rfl, zy_R_ok, zm_R, rfl, by decide +kernel, rfl⟩
theorem po_8_10 : zx_pOK 8 10 := ⟨"IntervalPackerModel", zt_R, 42, zy_R, .int, rfl, zy_R_ok, zm_R, rfl, by decide +kernel, rfl⟩
theorem po_8_11 : zx_pOK 8 11 := ⟨"IntervalPackerModel", zt_R, 42, zy_R, .int, rfl, zy_R_ok, zm_R, rfl, by decide +kernel, rfl⟩
theorem po_8_12 : zx_pOK 8 12 := ⟨"IntervalPackerModel", zt_R, 42, zy_R, .int, rfl, zy_R_ok, zm_R, rfl, by decide +kernel, rfl⟩
theorem po_8_13 : zx_pOK 8 13 := ⟨"IntervalPackerModel", zt_R, 42, zy_R, .long, rfl, zy_R_ok, zm_R, rfl, by decide +kernel, rfl⟩
theorem po_8_14 : zx_pOK 8 14 := ⟨"IntervalPackerModel", zt_R, 42, zy_R, .long, rfl, zy_R_ok, zm_R, rfl, by decide +kernel, rfl⟩
theorem po_8_15 : zx_pOK 8 15 := ⟨"IntervalPackerModel", zt_R, 42, zy_R, .long, rfl, zy_R_ok, zm_R, rfl, by decide +kernel, rfl⟩
theorem po_8_16 : zx_pOK 8 16 := ⟨"IntervalPackerModel", zt_R, 42, zy_R, .long, rfl, zy_R_ok, zm_R, rfl, by decide +kernel, rfl⟩
theorem po_8_17 : zx_pOK 8 17 := ⟨"IntervalPackerModel", zt_R, 42, zy_R, .long, rfl, zy_R_ok, zm_R, rfl, by decide +kernel, rfl⟩
theorem po_8_18 : zx_pOK 8 18 := ⟨"IntervalPackerModel", zt_R, 42, zy_R, .long, rfl, zy_R_ok, zm_R, rfl, by decide +kernel, rfl⟩
theorem po_8_19 : zx_pOK 8 19 := ⟨"IntervalPackerModel", zt_R, 42, zy_R, .int, rfl, zy_R_ok, zm_R, rfl, by decide +kernel, rfl⟩
theorem po_8_20 : zx_pOK 8 20 := ⟨"IntervalPackerModel", zt_R, 42, zy_R, .int, rfl, zy_R_ok, zm_R, rfl, by decide +kernel, rfl⟩
theorem po_8_21 : zx_pOK 8 21 := ⟨"IntervalPackerModel", zt_R, 42, zy_R, .int, rfl, zy_R_ok, zm_R, rfl, by decide +kernel, rfl⟩
theorem po_8_22 : zx_pOK 8 22 := ⟨"IntervalPackerModel", zt_R, 42, zy_R, .boolean, rfl, zy_R_ok, zm_R, rfl, by decide +kernel, rfl⟩
theorem po_8_23 : zx_pOK 8 23 := ⟨"IntervalPackerModel", zt_R, 42, zy_R, .int, rfl, zy_R_ok, zm_R, rfl, by decide +kernel, rfl⟩
theorem po_8_25 : zx_pOK 8 25 := ⟨"IntervalPackerModel", zt_R, 42, zy_R, .int, rfl, zy_R_ok, zm_R, rfl, by decide +kernel, rfl⟩
theorem po_8_26 : zx_pOK 8 26 := ⟨"IntervalPackerModel", zt_R, 42, zy_R, .int, rfl, zy_R_ok, zm_R, rfl, by decide +kernel, rfl⟩
theorem po_8_27 : zx_pOK 8 27 := ⟨"IntervalPackerModel", zt_R, 42, zy_R, .boolean, rfl, zy_R_ok, zm_R, rfl, by decide +kernel, rfl⟩
theorem po_8_28 : zx_pOK 8 28 := ⟨"IntervalPackerModel", zt_R, 42, zy_R, .int, rfl, zy_R_ok, zm_R, rfl, by decide +kernel, rfl⟩
theorem po_8_29 : zx_pOK 8 29 := ⟨"IntervalPackerModel", zt_R, 42, zy_R, .int, rfl, zy_R_ok, zm_R, rfl, by decide +kernel, rfl⟩
theorem po_8_30 : zx_pOK 8 30 := ⟨"IntervalPackerModel", zt_R, 42, zy_R, .int, rfl, zy_R_ok, zm_R, rfl, by decide +kernel, rfl⟩
theorem po_8_31 : zx_pOK 8 31 := ⟨"IntervalPackerModel", zt_R, 42, zy_R, .int, rfl, zy_R_ok, zm_R, rfl, by decide +kernel, rfl⟩
theorem po_8_32 : zx_pOK 8 32 := ⟨"IntervalPackerModel", zt_R, 42, zy_R, .int, rfl, zy_R_ok, zm_R, rfl, by decide +kernel, rfl⟩
theorem po_8_35 : zx_pOK 8 35 := ⟨"IntervalPackerModel", zt_R, 42, zy_R, .boolean, rfl, zy_R_ok, zm_R, rfl, by decide +kernel, rfl⟩
theorem po_8_36 : zx_pOK 8 36 := ⟨"IntervalPackerModel", zt_R, 42, zy_R, .boolean, rfl, zy_R_ok, zm_R, rfl, by decide +kernel, rfl⟩
theorem po_8_37 : zx_pOK 8 37 := ⟨"IntervalPackerModel", zt_R, 42, zy_R, .int, rfl, zy_R_ok, zm_R, rfl, by decide +kernel, rfl⟩
theorem po_8_38 : zx_pOK 8 38 := ⟨"IntervalPackerModel", zt_R, 42, zy_R, .int, rfl, zy_R_ok, zm_R, rfl, by decide +kernel, rfl⟩
theorem po_8_39 : zx_pOK 8 39 := ⟨"IntervalPackerModel", zt_R, 42, zy_R, .long, rfl, zy_R_ok, zm_R, rfl, by decide +kernel, rfl⟩
theorem po_8_40 : zx_pOK 8 40 := ⟨"IntervalPackerModel", zt_R, 42, zy_R, .long, rfl, zy_R_ok, zm_R, rfl, by decide +kernel, rfl⟩
def zx_ptab : List (Nat × Nat) := [(1, 1), (1, 2), (2, 0), (2, 1), (2, 2), (2, 3), (2, 4), (2, 5), (3, 1), (3, 2), (3, 3), (3, 4), (3, 5), (3, 6), (3, 7), (3, 8), (3, 9), (3, 10), (3, 11), (4, 1), (4, 2), (4, 4), (4, 5), (5, 2), (5, 3), (5, 4), (5, 5), (5, 6), (5, 7), (5, 8), (5, 9), (5, 10), (6, 7), (6, 8), (6, 9), (6, 10), (6, 11), (6, 12), (6, 13), (6, 14), (6, 15), (6, 16), (6, 17), (6, 18), (7, 4), (7, 5), (7, 6), (7, 7), (7, 8), (7, 9), (7, 10), (7, 11), (7, 12), (7, 13), (7, 14), (7, 15), (7, 16), (8, 1), (8, 3), (8, 5), (8, 7), (8, 9), (8, 10), (8, 11), (8, 12), (8, 13), (8, 14), (8, 15), (8, 16), (8, 17), (8, 18), (8, 19), (8, 20), (8, 21), (8, 22), (8, 23), (8, 25), (8, 26), (8, 27), (8, 28), (8, 29), (8, 30), (8, 31), (8, 32), (8, 35), (8, 36), (8, 37), (8, 38), (8, 39), (8, 40)]
theorem zx_ptab_g0 : ∀ q ∈ ([(1, 1), (1, 2), (2, 0), (2, 1), (2, 2), (2, 3), (2, 4), (2, 5), (3, 1), (3, 2), (3, 3), (3, 4), (3, 5), (3, 6), (3, 7), (3, 8)] : List (Nat × Nat)), zx_pOK q.1 q.2 := List.forall_mem_cons.mpr ⟨po_1_1, List.forall_mem_cons.mpr ⟨po_1_2, List.forall_mem_cons.mpr ⟨po_2_0, List.forall_mem_cons.mpr ⟨po_2_1, List.forall_mem_cons.mpr ⟨po_2_2, List.forall_mem_cons.mpr ⟨po_2_3, List.forall_mem_cons.mpr ⟨po_2_4, List.forall_mem_cons.mpr ⟨po_2_5, List.forall_mem_cons.mpr ⟨po_3_1, List.forall_mem_cons.mpr ⟨po_3_2, List.forall_mem_cons.mpr ⟨po_3_3, List.forall_mem_cons.mpr ⟨po_3_4, List.forall_mem_cons.mpr ⟨po_3_5, List.forall_mem_cons.mpr ⟨po_3_6, List.forall_mem_cons.mpr ⟨po_3_7, List.forall_mem_cons.mpr ⟨po_3_8, fun _ h => absurd h List.not_mem_nil⟩⟩⟩⟩⟩⟩⟩⟩⟩⟩⟩⟩⟩⟩⟩⟩
theorem zx_ptab_g1 : ∀ q ∈ ([(3, 9), (3, 10), (3, 11), (4, 1), (4, 2), (4, 4), (4, 5), (5, 2), (5, 3), (5, 4), (5, 5), (5, 6), (5, 7), (5, 8), (5, 9), (5, 10)] : List (Nat × Nat)), zx_pOK q.1 q.2 := List.forall_mem_cons.mpr ⟨po_3_9, List.forall_mem_cons.mpr ⟨po_3_10, List.forall_mem_cons.mpr ⟨po_3_11, List.forall_mem_cons.mpr ⟨po_4_1, List.forall_mem_cons.mpr ⟨po_4_2, List.forall_mem_cons.mpr ⟨po_4_4, List.forall_mem_cons.mpr ⟨po_4_5, List.forall_mem_cons.mpr ⟨po_5_2, List.forall_mem_cons.mpr ⟨po_5_3, List.forall_mem_cons.mpr ⟨po_5_4, List.forall_mem_cons.mpr ⟨po_5_5, List.forall_mem_cons.mpr ⟨po_5_6, List.forall_mem_cons.mpr ⟨po_5_7, List.forall_mem_cons.mpr ⟨po_5_8, List.forall_mem_cons.mpr ⟨po_5_9, List.forall_mem_cons.mpr ⟨po_5_10, fun _ h => absurd h List.not_mem_nil⟩⟩⟩⟩⟩⟩⟩⟩⟩⟩⟩⟩⟩⟩⟩⟩
theorem zx_ptab_g2 : ∀ q ∈ ([(6, 7), (6, 8), (6, 9), (6, 10), (6, 11), (6, 12), (6, 13), (6, 14), (6, 15), (6, 16), (6, 17), (6, 18), (7, 4), (7, 5), (7, 6), (7, 7)] : List (Nat × Nat)), zx_pOK q.1 q.2 := List.forall_mem_cons.mpr ⟨po_6_7, List.forall_mem_cons.mpr ⟨po_6_8, List.forall_mem_cons.mpr ⟨po_6_9, List.forall_mem_cons.mpr ⟨po_6_10, List.forall_mem_cons.mpr ⟨po_6_11, List.forall_mem_cons.mpr ⟨po_6_12, List.forall_mem_cons.mpr ⟨po_6_13, List.forall_mem_cons.mpr ⟨po_6_14, List.forall_mem_cons.mpr ⟨po_6_15, List.forall_mem_cons.mpr ⟨po_6_16, List.forall_mem_cons.mpr ⟨po_6_17, List.forall_mem_cons.mpr ⟨po_6_18, List.forall_mem_cons.mpr ⟨po_7_4, List.forall_mem_cons.mpr ⟨po_7_5, List.forall_mem_cons.mpr ⟨po_7_6, List.forall_mem_cons.mpr ⟨po_7_7, fun _ h => absurd h List.not_mem_nil⟩⟩⟩⟩⟩⟩⟩⟩⟩⟩⟩⟩⟩⟩⟩⟩
theorem zx_ptab_g3 : ∀ q ∈ ([(7, 8), (7, 9), (7, 10), (7, 11), (7, 12), (7, 13), (7, 14), (7, 15), (7, 16), (8, 1), (8, 3), (8, 5), (8, 7), (8, 9), (8, 10), (8, 11)] : List (Nat × Nat)), zx_pOK q.1 q.2 := List.forall_mem_cons.mpr ⟨po_7_8, List.forall_mem_cons.mpr ⟨po_7_9, List.forall_mem_cons.mpr ⟨po_7_10, List.forall_mem_cons.mpr ⟨po_7_11, List.forall_mem_cons.mpr ⟨po_7_12, List.forall_mem_cons.mpr ⟨po_7_13, List.forall_mem_cons.mpr ⟨po_7_14, List.forall_mem_cons.mpr ⟨po_7_15, List.forall_mem_cons.mpr ⟨po_7_16, List.forall_mem_cons.mpr ⟨po_8_1, List.forall_mem_cons.mpr ⟨po_8_3, List.forall_mem_cons.mpr ⟨po_8_5, List.forall_mem_cons.mpr ⟨po_8_7, List.forall_mem_cons.mpr ⟨po_8_9, List.forall_mem_cons.mpr ⟨po_8_10, List.forall_mem_cons.mpr ⟨po_8_11, fun _ h => absurd h List.not_mem_nil⟩⟩⟩⟩⟩⟩⟩⟩⟩⟩⟩⟩⟩⟩⟩⟩
theorem zx_ptab_g4 : ∀ q ∈ ([(8, 12), (8, 13), (8, 14), (8, 15), (8, 16), (8, 17), (8, 18), (8, 19), (8, 20), (8, 21), (8, 22), (8, 23), (8, 25), (8, 26), (8, 27), (8, 28)] : List (Nat × Nat)), zx_pOK q.1 q.2 := List.forall_mem_cons.mpr ⟨po_8_12, List.forall_mem_cons.mpr ⟨po_8_13, List.forall_mem_cons.mpr ⟨po_8_14, List.forall_mem_cons.mpr ⟨po_8_15, List.forall_mem_cons.mpr ⟨po_8_16, List.forall_mem_cons.mpr ⟨po_8_17, List.forall_mem_cons.mpr ⟨po_8_18, List.forall_mem_cons.mpr ⟨po_8_19, List.forall_mem_cons.mpr ⟨po_8_20, List.forall_mem_cons.mpr ⟨po_8_21, List.forall_mem_cons.mpr ⟨po_8_22, List.forall_mem_cons.mpr ⟨po_8_23, List.forall_mem_cons.mpr ⟨po_8_25, List.forall_mem_cons.mpr ⟨po_8_26, List.forall_mem_cons.mpr ⟨po_8_27, List.forall_mem_cons.mpr ⟨po_8_28, fun _ h => absurd h List.not_mem_nil⟩⟩⟩⟩⟩⟩⟩⟩⟩⟩⟩⟩⟩⟩⟩⟩
theorem zx_ptab_g5 : ∀ q ∈ ([(8, 29), (8, 30), (8, 31), (8, 32), (8, 35), (8, 36), (8, 37), (8, 38), (8, 39), (8, 40)] : List (Nat × Nat)), zx_pOK q.1 q.2 := List.forall_mem_cons.mpr ⟨po_8_29, List.forall_mem_cons.mpr ⟨po_8_30, List.forall_mem_cons.mpr ⟨po_8_31, List.forall_mem_cons.mpr ⟨po_8_32, List.forall_mem_cons.mpr ⟨po_8_35, List.forall_mem_cons.mpr ⟨po_8_36, List.forall_mem_cons.mpr ⟨po_8_37, List.forall_mem_cons.mpr ⟨po_8_38, List.forall_mem_cons.mpr ⟨po_8_39, List.forall_mem_cons.mpr ⟨po_8_40, fun _ h => absurd h List.not_mem_nil⟩⟩⟩⟩⟩⟩⟩⟩⟩⟩
theorem zx_ptab_ok : ∀ q ∈ zx_ptab, zx_pOK q.1 q.2 := List.forall_mem_append.mpr ⟨zx_ptab_g0, List.forall_mem_append.mpr ⟨zx_ptab_g1, List.forall_mem_append.mpr ⟨zx_ptab_g2, List.forall_mem_append.mpr ⟨zx_ptab_g3, List.forall_mem_append.mpr ⟨zx_ptab_g4, zx_ptab_g5⟩⟩⟩⟩⟩
def zx_NW : List Cond := [(Jvm.Cond.fieldLinkNest "IntervalPacker$Unpacking" (64 : Nat) "IntervalPacker" "MAGIC" "[I" "IntervalPacker"), (Jvm.Cond.fieldLinkNest "IntervalPacker$Packing" (45 : Nat) "IntervalPacker" "MAGIC" "[I" "IntervalPacker"), (Jvm.Cond.methodLinkNest "IntervalPacker$Packing" (58 : Nat) ({ cls := "IntervalPacker", name := "sumFour", desc := "([III)J" } : Jvm.MethodName) "IntervalPacker"), (Jvm.Cond.methodLinkNest "IntervalPacker$Packing" (185 : Nat) ({ cls := "IntervalPacker", name := "checkSize", desc := "(I)I" } : Jvm.MethodName) "IntervalPacker"), (Jvm.Cond.methodLinkNest "IntervalPacker$Packing" (195 : Nat) ({ cls := "IntervalPacker", name := "sumEight", desc := "([III)J" } : Jvm.MethodName) "IntervalPacker"), (Jvm.Cond.methodLinkNest "IntervalPacker$Unpacking" (85 : Nat) ({ cls := "IntervalPacker", name := "isSort", desc := "(I)Z" } : Jvm.MethodName) "IntervalPacker"), (Jvm.Cond.methodLinkNest "IntervalPacker$Unpacking" (88 : Nat) ({ cls := "IntervalPacker", name := "sumFour", desc := "([III)J" } : Jvm.MethodName) "IntervalPacker"), (Jvm.Cond.methodLinkNest "IntervalPacker$Unpacking" (188 : Nat) ({ cls := "IntervalPacker", name := "areProperties", desc := "(I)Z" } : Jvm.MethodName) "IntervalPacker"), (Jvm.Cond.methodLinkNest "IntervalPacker$Unpacking" (253 : Nat) ({ cls := "IntervalPacker", name := "checkSize", desc := "(I)I" } : Jvm.MethodName) "IntervalPacker"), (Jvm.Cond.methodLinkNest "IntervalPacker$Unpacking" (261 : Nat) ({ cls := "IntervalPacker", name := "sumEight", desc := "([III)J" } : Jvm.MethodName) "IntervalPacker"), (Jvm.Cond.declares ({ cls := "IntervalPacker$BitLine", name := "codeBit", desc := "(II)I" } : Jvm.MethodName)), (Jvm.Cond.declares ({ cls := "IntervalPacker$BitLine", name := "codeEvenBit", desc := "(I)I" } : Jvm.MethodName)), (Jvm.Cond.declares ({ cls := "IntervalPacker$BitLine", name := "learn", desc := "(II)V" } : Jvm.MethodName))]
theorem zn_0 : (Jvm.Cond.fieldLinkNest "IntervalPacker$Unpacking" (64 : Nat) "IntervalPacker" "MAGIC" "[I" "IntervalPacker") ∈ zx_NW := List.mem_of_getElem? (i := 0) rfl
theorem zn_1 : (Jvm.Cond.fieldLinkNest "IntervalPacker$Packing" (45 : Nat) "IntervalPacker" "MAGIC" "[I" "IntervalPacker") ∈ zx_NW := List.mem_of_getElem? (i := 1) rfl
theorem zn_2 : (Jvm.Cond.methodLinkNest "IntervalPacker$Packing" (58 : Nat) ({ cls := "IntervalPacker", name := "sumFour", desc := "([III)J" } : Jvm.MethodName) "IntervalPacker") ∈ zx_NW := List.mem_of_getElem? (i := 2) rfl
theorem zn_3 : (Jvm.Cond.methodLinkNest "IntervalPacker$Packing" (185 : Nat) ({ cls := "IntervalPacker", name := "checkSize", desc := "(I)I" } : Jvm.MethodName) "IntervalPacker") ∈ zx_NW := List.mem_of_getElem? (i := 3) rfl
theorem zn_4 : (Jvm.Cond.methodLinkNest "IntervalPacker$Packing" (195 : Nat) ({ cls := "IntervalPacker", name := "sumEight", desc := "([III)J" } : Jvm.MethodName) "IntervalPacker") ∈ zx_NW := List.mem_of_getElem? (i := 4) rfl
theorem zn_5 : (Jvm.Cond.methodLinkNest "IntervalPacker$Unpacking" (85 : Nat) ({ cls := "IntervalPacker", name := "isSort", desc := "(I)Z" } : Jvm.MethodName) "IntervalPacker") ∈ zx_NW := List.mem_of_getElem? (i := 5) rfl
theorem zn_6 : (Jvm.Cond.methodLinkNest "IntervalPacker$Unpacking" (88 : Nat) ({ cls := "IntervalPacker", name := "sumFour", desc := "([III)J" } : Jvm.MethodName) "IntervalPacker") ∈ zx_NW := List.mem_of_getElem? (i := 6) rfl
theorem zn_7 : (Jvm.Cond.methodLinkNest "IntervalPacker$Unpacking" (188 : Nat) ({ cls := "IntervalPacker", name := "areProperties", desc := "(I)Z" } : Jvm.MethodName) "IntervalPacker") ∈ zx_NW := List.mem_of_getElem? (i := 7) rfl
theorem zn_8 : (Jvm.Cond.methodLinkNest "IntervalPacker$Unpacking" (253 : Nat) ({ cls := "IntervalPacker", name := "checkSize", desc := "(I)I" } : Jvm.MethodName) "IntervalPacker") ∈ zx_NW := List.mem_of_getElem? (i := 8) rfl
theorem zn_9 : (Jvm.Cond.methodLinkNest "IntervalPacker$Unpacking" (261 : Nat) ({ cls := "IntervalPacker", name := "sumEight", desc := "([III)J" } : Jvm.MethodName) "IntervalPacker") ∈ zx_NW := List.mem_of_getElem? (i := 9) rfl
theorem zn_10 : (Jvm.Cond.declares ({ cls := "IntervalPacker$BitLine", name := "codeBit", desc := "(II)I" } : Jvm.MethodName)) ∈ zx_NW := List.mem_of_getElem? (i := 10) rfl
theorem zn_11 : (Jvm.Cond.declares ({ cls := "IntervalPacker$BitLine", name := "codeEvenBit", desc := "(I)I" } : Jvm.MethodName)) ∈ zx_NW := List.mem_of_getElem? (i := 11) rfl
theorem zn_12 : (Jvm.Cond.declares ({ cls := "IntervalPacker$BitLine", name := "learn", desc := "(II)V" } : Jvm.MethodName)) ∈ zx_NW := List.mem_of_getElem? (i := 12) rfl
theorem zx_NW_in : ∀ w ∈ zx_NW, w ∈ lw_tbl := List.forall_mem_cons.mpr ⟨List.mem_append_right _ (List.mem_of_getElem? (i := 678) (by decide +kernel)), List.forall_mem_cons.mpr ⟨List.mem_append_right _ (List.mem_of_getElem? (i := 422) (by decide +kernel)), List.forall_mem_cons.mpr ⟨List.mem_append_right _ (List.mem_of_getElem? (i := 429) (by decide +kernel)), List.forall_mem_cons.mpr ⟨List.mem_append_right _ (List.mem_of_getElem? (i := 622) (by decide +kernel)), List.forall_mem_cons.mpr ⟨List.mem_append_right _ (List.mem_of_getElem? (i := 629) (by decide +kernel)), List.forall_mem_cons.mpr ⟨List.mem_append_right _ (List.mem_of_getElem? (i := 688) (by decide +kernel)), List.forall_mem_cons.mpr ⟨List.mem_append_right _ (List.mem_of_getElem? (i := 689) (by decide +kernel)), List.forall_mem_cons.mpr ⟨List.mem_append_right _ (List.mem_of_getElem? (i := 764) (by decide +kernel)), List.forall_mem_cons.mpr ⟨List.mem_append_right _ (List.mem_of_getElem? (i := 804) (by decide +kernel)), List.forall_mem_cons.mpr ⟨List.mem_append_right _ (List.mem_of_getElem? (i := 810) (by decide +kernel)), List.forall_mem_cons.mpr ⟨List.mem_append_right _ (List.mem_of_getElem? (i := 517) (by decide +kernel)), List.forall_mem_cons.mpr ⟨List.mem_append_right _ (List.mem_of_getElem? (i := 586) (by decide +kernel)), List.forall_mem_cons.mpr ⟨List.mem_append_right _ (List.mem_of_getElem? (i := 533) (by decide +kernel)), fun _ h => absurd h List.not_mem_nil⟩⟩⟩⟩⟩⟩⟩⟩⟩⟩⟩⟩⟩
theorem zx_NW_tab : ∀ w ∈ zx_NW, w.onTables = true := List.forall_mem_cons.mpr ⟨rfl, List.forall_mem_cons.mpr ⟨rfl, List.forall_mem_cons.mpr ⟨rfl, List.forall_mem_cons.mpr ⟨rfl, List.forall_mem_cons.mpr ⟨rfl, List.forall_mem_cons.mpr ⟨rfl, List.forall_mem_cons.mpr ⟨rfl, List.forall_mem_cons.mpr ⟨rfl, List.forall_mem_cons.mpr ⟨rfl, List.forall_mem_cons.mpr ⟨rfl, List.forall_mem_cons.mpr ⟨rfl, List.forall_mem_cons.mpr ⟨rfl, List.forall_mem_cons.mpr ⟨rfl, fun _ h => absurd h List.not_mem_nil⟩⟩⟩⟩⟩⟩⟩⟩⟩⟩⟩⟩⟩
theorem zx_NW_moved {s U : State} (hW : s.WarmedH U.vm) (h : ∀ w ∈ zx_NW, va_Nw w s) : ∀ w ∈ zx_NW, va_Nw w U := List.forall_mem_cons.mpr ⟨va_Nw.warmF hW (h _ zn_0), List.forall_mem_cons.mpr ⟨va_Nw.warmF hW (h _ zn_1), List.forall_mem_cons.mpr ⟨va_Nw.warmM hW (h _ zn_2), List.forall_mem_cons.mpr ⟨va_Nw.warmM hW (h _ zn_3), List.forall_mem_cons.mpr ⟨va_Nw.warmM hW (h _ zn_4), List.forall_mem_cons.mpr ⟨va_Nw.warmM hW (h _ zn_5), List.forall_mem_cons.mpr ⟨va_Nw.warmM hW (h _ zn_6), List.forall_mem_cons.mpr ⟨va_Nw.warmM hW (h _ zn_7), List.forall_mem_cons.mpr ⟨va_Nw.warmM hW (h _ zn_8), List.forall_mem_cons.mpr ⟨va_Nw.warmM hW (h _ zn_9), List.forall_mem_cons.mpr ⟨va_Nw.warmD hW (h _ zn_10), List.forall_mem_cons.mpr ⟨va_Nw.warmD hW (h _ zn_11), List.forall_mem_cons.mpr ⟨va_Nw.warmD hW (h _ zn_12), fun _ h => absurd h List.not_mem_nil⟩⟩⟩⟩⟩⟩⟩⟩⟩⟩⟩⟩⟩
def zx_stab : List (Nat × Nat) := [(6, 64), (7, 45)]
theorem zx_stab_g0 : ∀ q ∈ ([(6, 64), (7, 45)] : List (Nat × Nat)), ∃ ref host : String, Cond.fieldLinkNest (zx_on q.1) q.2 ref zx_mgN zx_mgD host ∈ zx_NW ∧ ref = zx_mgC := List.forall_mem_cons.mpr ⟨⟨_, _, zn_0, rfl⟩, List.forall_mem_cons.mpr ⟨⟨_, _, zn_1, rfl⟩, fun _ h => absurd h List.not_mem_nil⟩⟩
theorem zx_stab_ok : ∀ q ∈ zx_stab, ∃ ref host : String, Cond.fieldLinkNest (zx_on q.1) q.2 ref zx_mgN zx_mgD host ∈ zx_NW ∧ ref = zx_mgC := zx_stab_g0
theorem wd_1_205 : (Jvm.Cond.methodLink "IntervalPacker" (96 : Nat) ({ cls := "java/lang/Math", name := "min", desc := "(II)I" } : Jvm.MethodName)) ∈ zx_WS := zx_r1 (List.mem_of_getElem? (i := 205) rfl) rfl
theorem wd_1_206 : (Jvm.Cond.static ({ cls := "java/lang/Math", name := "min", desc := "(II)I" } : Jvm.MethodName)) ∈ zx_WS := zx_r1 (List.mem_of_getElem? (i := 206) rfl) rfl
theorem wd_0_11 : (Jvm.Cond.initialized "java/lang/Math") ∈ zx_WS := zx_r0 (List.mem_of_getElem? (i := 11) rfl) rfl
theorem wd_1_207 : (Jvm.Cond.code ({ cls := "java/lang/Math", name := "min", desc := "(II)I" } : Jvm.MethodName) prog_14_method_69_code (2 : Nat) (Option.some Jvm.ClassFile.FieldType.int)) ∈ zx_WS := zx_r1 (List.mem_of_getElem? (i := 207) rfl) rfl
theorem wd_2_172 : (Jvm.Cond.methodLink "IntervalPacker$Row" (31 : Nat) ({ cls := "java/lang/Math", name := "min", desc := "(II)I" } : Jvm.MethodName)) ∈ zx_WS := zx_r2 (List.mem_of_getElem? (i := 172) rfl) rfl
theorem wd_2_236 : (Jvm.Cond.methodLink "IntervalPacker$Cursor" (35 : Nat) ({ cls := "java/lang/Math", name := "min", desc := "(II)I" } : Jvm.MethodName)) ∈ zx_WS := zx_r2 (List.mem_of_getElem? (i := 236) rfl) rfl
theorem wd_1_220 : (Jvm.Cond.methodLink "IntervalPacker$BitSink" (15 : Nat) ({ cls := "java/lang/Math", name := "min", desc := "(II)I" } : Jvm.MethodName)) ∈ zx_WS := zx_r1 (List.mem_of_getElem? (i := 220) rfl) rfl
theorem wd_2_88 : (Jvm.Cond.methodLink "IntervalPacker$Model" (86 : Nat) ({ cls := "java/lang/Math", name := "min", desc := "(II)I" } : Jvm.MethodName)) ∈ zx_WS := zx_r2 (List.mem_of_getElem? (i := 88) rfl) rfl
theorem wd_2_6 : (Jvm.Cond.methodLink "IntervalPacker$Packing" (123 : Nat) ({ cls := "java/lang/Math", name := "min", desc := "(II)I" } : Jvm.MethodName)) ∈ zx_WS := zx_r2 (List.mem_of_getElem? (i := 6) rfl) rfl
def zx_mintab : List (Nat × Nat) := [(0, 96), (1, 31), (2, 35), (4, 15), (5, 86), (7, 123)]
theorem zx_mintab_g0 : ∀ q ∈ ([(0, 96), (1, 31), (2, 35), (4, 15), (5, 86), (7, 123)] : List (Nat × Nat)), Cond.methodLink (zx_on q.1) q.2 Lib.Math.min.name ∈ zx_WS ∧ Cond.static Lib.Math.min.name ∈ zx_WS ∧ Cond.initialized "java/lang/Math" ∈ zx_WS ∧ Cond.code Lib.Math.min.name Lib.Math.min.code 2 (some .int) ∈ zx_WS := List.forall_mem_cons.mpr ⟨⟨wd_1_205, wd_1_206, wd_0_11, wd_1_207⟩, List.forall_mem_cons.mpr ⟨⟨wd_2_172, wd_1_206, wd_0_11, wd_1_207⟩, List.forall_mem_cons.mpr ⟨⟨wd_2_236, wd_1_206, wd_0_11, wd_1_207⟩, List.forall_mem_cons.mpr ⟨⟨wd_1_220, wd_1_206, wd_0_11, wd_1_207⟩, List.forall_mem_cons.mpr ⟨⟨wd_2_88, wd_1_206, wd_0_11, wd_1_207⟩, List.forall_mem_cons.mpr ⟨⟨wd_2_6, wd_1_206, wd_0_11, wd_1_207⟩, fun _ h => absurd h List.not_mem_nil⟩⟩⟩⟩⟩⟩
theorem zx_mintab_ok : ∀ q ∈ zx_mintab, Cond.methodLink (zx_on q.1) q.2 Lib.Math.min.name ∈ zx_WS ∧ Cond.static Lib.Math.min.name ∈ zx_WS ∧ Cond.initialized "java/lang/Math" ∈ zx_WS ∧ Cond.code Lib.Math.min.name Lib.Math.min.code 2 (some .int) ∈ zx_WS := zx_mintab_g0
theorem wd_2_119 : (Jvm.Cond.methodLink "IntervalPacker$Packing" (147 : Nat) ({ cls := "java/lang/Math", name := "max", desc := "(II)I" } : Jvm.MethodName)) ∈ zx_WS := zx_r2 (List.mem_of_getElem? (i := 119) rfl) rfl
theorem wd_2_120 : (Jvm.Cond.static ({ cls := "java/lang/Math", name := "max", desc := "(II)I" } : Jvm.MethodName)) ∈ zx_WS := zx_r2 (List.mem_of_getElem? (i := 120) rfl) rfl
theorem wd_2_121 : (Jvm.Cond.code ({ cls := "java/lang/Math", name := "max", desc := "(II)I" } : Jvm.MethodName) prog_14_method_65_code (2 : Nat) (Option.some Jvm.ClassFile.FieldType.int)) ∈ zx_WS := zx_r2 (List.mem_of_getElem? (i := 121) rfl) rfl
def zx_maxtab : List (Nat × Nat) := [(7, 147)]
theorem zx_maxtab_g0 : ∀ q ∈ ([(7, 147)] : List (Nat × Nat)), Cond.methodLink (zx_on q.1) q.2 Lib.Math.max.name ∈ zx_WS ∧ Cond.static Lib.Math.max.name ∈ zx_WS ∧ Cond.initialized "java/lang/Math" ∈ zx_WS ∧ Cond.code Lib.Math.max.name Lib.Math.max.code 2 (some .int) ∈ zx_WS := List.forall_mem_cons.mpr ⟨⟨wd_2_119, wd_2_120, wd_0_11, wd_2_121⟩, fun _ h => absurd h List.not_mem_nil⟩
theorem zx_maxtab_ok : ∀ q ∈ zx_maxtab, Cond.methodLink (zx_on q.1) q.2 Lib.Math.max.name ∈ zx_WS ∧ Cond.static Lib.Math.max.name ∈ zx_WS ∧ Cond.initialized "java/lang/Math" ∈ zx_WS ∧ Cond.code Lib.Math.max.name Lib.Math.max.code 2 (some .int) ∈ zx_WS := zx_maxtab_g0
theorem wd_2_173 : (Jvm.Cond.methodLink "IntervalPacker$Row" (37 : Nat) ({ cls := "java/lang/System", name := "arraycopy", desc := "(Ljava/lang/Object;ILjava/lang/Object;II)V" } : Jvm.MethodName)) ∈ zx_WS := zx_r2 (List.mem_of_getElem? (i := 173) rfl) rfl
theorem wd_2_175 : (Jvm.Cond.native ({ cls := "java/lang/System", name := "arraycopy", desc := "(Ljava/lang/Object;ILjava/lang/Object;II)V" } : Jvm.MethodName)) ∈ zx_WS := zx_r2 (List.mem_of_getElem? (i := 175) rfl) rfl
theorem wd_2_174 : (Jvm.Cond.static ({ cls := "java/lang/System", name := "arraycopy", desc := "(Ljava/lang/Object;ILjava/lang/Object;II)V" } : Jvm.MethodName)) ∈ zx_WS := zx_r2 (List.mem_of_getElem? (i := 174) rfl) rfl
theorem wd_0_15 : (Jvm.Cond.initialized "java/lang/System") ∈ zx_WS := zx_r0 (List.mem_of_getElem? (i := 15) rfl) rfl
def zx_cpytab : List (Nat × Nat) := [(1, 37)]
theorem zx_cpytab_g0 : ∀ q ∈ ([(1, 37)] : List (Nat × Nat)), Cond.methodLink (zx_on q.1) q.2 arraycopyName ∈ zx_WS ∧ Cond.native arraycopyName ∈ zx_WS ∧ Cond.static arraycopyName ∈ zx_WS ∧ Cond.initialized "java/lang/System" ∈ zx_WS := List.forall_mem_cons.mpr ⟨⟨wd_2_173, wd_2_175, wd_2_174, wd_0_15⟩, fun _ h => absurd h List.not_mem_nil⟩
theorem zx_cpytab_ok : ∀ q ∈ zx_cpytab, Cond.methodLink (zx_on q.1) q.2 arraycopyName ∈ zx_WS ∧ Cond.native arraycopyName ∈ zx_WS ∧ Cond.static arraycopyName ∈ zx_WS ∧ Cond.initialized "java/lang/System" ∈ zx_WS := zx_cpytab_g0
def zx_vtab : List (Nat × Nat × Nat × Nat × Nat) := [(0, 56, 1, 0, 13), (0, 60, 1, 1, 21), (0, 64, 1, 1, 22), (0, 71, 2, 1, 25), (0, 75, 1, 1, 26), (0, 89, 3, 7, 86), (0, 93, 0, 7, 87), (0, 102, 2, 7, 88), (0, 106, 0, 7, 97), (0, 109, 0, 7, 100), (0, 112, 0, 7, 101), (0, 122, 1, 1, 28), (0, 126, 1, 6, 69), (0, 128, 0, 6, 70), (0, 131, 0, 6, 71), (0, 135, 0, 6, 72), (0, 138, 0, 6, 84), (0, 141, 0, 6, 85), (0, 148, 0, 2, 30), (1, 23, 1, 1, 22), (1, 27, 2, 1, 27), (2, 41, 2, 2, 31), (2, 45, 2, 2, 36), (2, 48, 1, 2, 34), (2, 52, 1, 2, 35), (2, 56, 2, 2, 38), (2, 62, 0, 2, 41), (3, 51, 0, 3, 45), (3, 58, 2, 3, 180), (3, 62, 0, 3, 48), (4, 46, 0, 4, 51), (4, 53, 1, 4, 52), (4, 57, 2, 4, 180), (5, 45, 1, 5, 62), (5, 52, 2, 5, 63), (5, 62, 2, 5, 64), (5, 65, 0, 5, 65), (5, 73, 2, 5, 61), (5, 77, 2, 3, 46), (5, 77, 2, 4, 53), (5, 82, 3, 5, 67), (5, 97, 3, 5, 68), (5, 100, 1, 3, 47), (5, 100, 1, 4, 54), (6, 46, 1, 2, 29), (6, 50, 0, 1, 20), (6, 59, 0, 3, 43), (6, 67, 1, 2, 34), (6, 74, 2, 2, 31), (6, 92, 2, 2, 39), (6, 112, 0, 6, 73), (6, 115, 0, 2, 30), (6, 119, 0, 6, 75), (6, 125, 0, 6, 81), (6, 128, 0, 6, 80), (6, 131, 1, 6, 83), (6, 134, 2, 2, 38), (6, 138, 1, 2, 32), (6, 141, 0, 6, 74), (6, 144, 1, 2, 35), (6, 147, 2, 2, 36), (6, 150, 0, 2, 33), (6, 162, 0, 2, 41), (6, 166, 0, 6, 77), (6, 169, 0, 6, 76), (6, 175, 0, 2, 40), (6, 185, 0, 6, 78), (6, 191, 1, 5, 56), (6, 196, 0, 5, 57), (6, 199, 1, 1, 21), (6, 202, 1, 6, 79), (6, 205, 3, 1, 23), (6, 209, 3, 3, 44), (6, 211, 1, 5, 58), (6, 215, 2, 1, 27), (6, 219, 1, 5, 59), (6, 223, 3, 5, 60), (6, 230, 2, 6, 82), (6, 237, 0, 3, 49), (6, 243, 1, 1, 22), (6, 249, 2, 1, 25), (6, 257, 1, 2, 37), (6, 264, 1, 2, 42), (7, 42, 0, 1, 20), (7, 48, 3, 1, 23), (7, 52, 1, 1, 22), (7, 62, 2, 1, 24), (7, 85, 2, 7, 92), (7, 89, 1, 7, 90), (7, 92, 2, 7, 89), (7, 96, 1, 7, 91), (7, 105, 1, 4, 50), (7, 111, 1, 5, 56), (7, 116, 0, 5, 57), (7, 119, 1, 5, 58), (7, 129, 2, 7, 93), (7, 132, 1, 5, 59), (7, 136, 2, 1, 27), (7, 140, 3, 5, 60), (7, 150, 0, 4, 55), (7, 153, 2, 7, 94), (7, 156, 2, 7, 95), (7, 181, 3, 7, 96), (7, 192, 1, 7, 98), (7, 202, 1, 7, 99), (8, 80, 2, 8, 113), (8, 84, 1, 8, 114), (8, 88, 2, 8, 115), (8, 92, 2, 8, 109), (8, 105, 1, 8, 116), (8, 109, 2, 8, 117), (8, 112, 1, 8, 122), (8, 122, 0, 8, 124), (8, 126, 1, 8, 118), (8, 129, 1, 8, 110), (8, 133, 1, 8, 111), (8, 139, 1, 8, 125), (8, 142, 2, 8, 128), (8, 146, 1, 8, 127), (8, 149, 3, 8, 129), (8, 168, 0, 8, 138), (8, 189, 0, 8, 149), (8, 192, 0, 8, 139), (8, 195, 1, 8, 131), (8, 204, 0, 8, 121), (8, 207, 0, 8, 123), (8, 210, 0, 8, 130), (8, 234, 2, 8, 142), (8, 237, 0, 8, 140), (8, 242, 1, 8, 141), (8, 245, 0, 8, 146), (8, 249, 1, 8, 147), (8, 252, 0, 8, 157), (8, 255, 2, 8, 153), (8, 259, 1, 8, 154), (8, 262, 2, 8, 152), (8, 265, 2, 8, 150), (8, 268, 1, 8, 151), (8, 271, 1, 8, 148), (8, 274, 2, 8, 144), (8, 279, 2, 8, 145), (8, 282, 0, 8, 143), (8, 287, 2, 8, 155), (8, 302, 0, 8, 158), (8, 305, 1, 8, 159), (8, 309, 2, 8, 160), (8, 312, 3, 8, 164), (8, 316, 1, 8, 165), (8, 319, 3, 8, 167), (8, 322, 3, 8, 168), (8, 325, 2, 8, 170), (8, 328, 3, 8, 169), (8, 331, 3, 8, 162), (8, 334, 3, 8, 163), (8, 337, 1, 8, 161), (8, 343, 1, 8, 171), (8, 346, 2, 8, 172), (8, 350, 2, 8, 166), (8, 353, 2, 8, 176), (8, 357, 1, 8, 173), (8, 360, 2, 8, 177), (8, 363, 1, 8, 175), (8, 366, 1, 8, 112), (8, 370, 3, 8, 178), (8, 374, 1, 8, 174)]
def zx_stab2 : List (Nat × Nat × Nat × Nat × Nat) := [(0, 83, 1, 0, 14), (0, 86, 1, 0, 16), (0, 178, 3, 0, 18), (0, 182, 3, 0, 17), (0, 189, 5, 0, 19), (4, 38, 2, 0, 183), (5, 33, 4, 0, 184), (5, 39, 2, 0, 182), (5, 91, 1, 0, 66), (5, 107, 1, 0, 185), (6, 53, 2, 0, 183), (6, 85, 1, 0, 14), (6, 88, 3, 0, 17), (6, 188, 1, 0, 16), (6, 253, 1, 0, 15), (6, 261, 3, 0, 18), (7, 58, 3, 0, 17), (7, 185, 1, 0, 15), (7, 195, 3, 0, 18), (8, 64, 2, 0, 107), (8, 71, 2, 0, 108), (8, 95, 1, 0, 119), (8, 102, 1, 0, 120), (8, 153, 1, 0, 126), (8, 290, 1, 0, 156), (10, 13, 3, 0, 181), (11, 308, 1, 0, 186)]
