/-! The law's walk, case by case, out of what the two worlds' methods answer -/
abbrev zl_A (s : State) : Nat → Prop := fun q => s.heap.size ≤ q
def zl_Z (p : Program) (l : Launch) (e : Env) (s : State) (m : MethodId) (below : List Frame) (meth : Method) (c : Code) (b : Nat) (E1 E2 : zx_E) (S1 S2 : zx_S) (pc : Nat) (i : Int32) : Prop := ∀ (H : Heap) (locs : List Loc) (ls : Array Slot), va_P E1.1 zx_cl (zx_w zx_LC E1 S1) H → va_P E2.1 zx_cl (zx_w zx_LR E2 S2) H → va_S (zl_A s) s.heap H locs → lv_has ls 4 [(0, .ref b), (1, .ref (E1.2.1 0)), (2, .ref (E2.2.1 0)), (3, .int i)] → W p l e room_1 s m #[Value.ref b] below meth c H locs 33 21822 (lw_Z below #[Value.ref b] s) (F0 m pc ls [])
/-- what holds of both worlds beside the law's own facts -/
def zl_E (s : State) (E1 E2 : zx_E) : Prop := zx_env zx_LC zx_ro E1 s s.heap ∧ zx_env zx_LR zx_ro E2 s s.heap ∧ (∀ q, zx_A zx_LC E1 q → s.heap.size ≤ q) ∧ (∀ q, zx_A zx_LR E2 q → s.heap.size ≤ q) ∧ ∀ q, zx_A zx_LC E1 q → ¬ zx_A zx_LR E2 q
def zl_lk (idx n : Nat) (C : String) (y : zx_Y) : Prop := y.1.cls = C ∧ zx_noMH y.1.cls ∧ zx_na y.1 n ∧ Cond.methodLink R_law idx y.1 ∈ zx_WS ∧ Cond.instanceMethod y.1 ∈ zx_WS ∧ Cond.selects C y.1 y.1 ∈ zx_WS ∧ Cond.initialized C ∈ zx_WS ∧ zx_cd y ∈ zx_WS ∧ y.2.2.2.1 ≤ 21
section ZL
variable {p : Program} {l : Launch} {e : Env} {s : State} {m : MethodId} {below : List Frame} {meth : Method} {c : Code} {b L : Nat} {xs : Nat → Int32} {E1 E2 : zx_E} {S1 S2 S1' S2' : zx_S}
theorem zl_call {lay : List zx_C} {E : zx_E} {H : Heap} {locs : List Loc} {cells slots pc k d n idx ci N : Nat} {C : String} {T : u_T} {y : zx_Y} {ks : List Nat} {S : zx_S} {As0 : List Value} {Q' : Option Value → zx_S → Prop} {Qs : State → Prop} {ls : Array Slot} {rest st0 : List Value}
    (hF : lw_At p s m meth c b L xs) (henv : zx_env lay zx_ro E s s.heap) (hM : zx_Met zx_mt lay zx_ro l E k d (.ref 0 :: As0) S Q') (hd : d ≤ 9) (hy : zx_mt[k]? = some y) (hlay : lay[0]? = some (.inl (ci, ks))) (hcl : zx_cl[ci]? = some (C, T, N)) (hlk : zl_lk idx n C y) (hAB : ∀ q, zx_A lay E q → s.heap.size ≤ q) (hc : cells ≤ room_1.cells ∧ slots ≤ room_1.slots)
    (hn : As0.length = n) (hst : st0 = (As0.map (zx_v E.2.1)).reverse ++ .ref (E.2.1 0) :: rest) (hwd : (rest.map fun v => v.category).sum ≤ 8) (hdg : decode code pc = .ok (.invokevirtual idx, 3)) (hP : va_P E.1 zx_cl (zx_w lay E S) H) (hS : va_S (zl_A s) s.heap H locs) (hls : ls.size = 4)
    (kk : ∀ (r : Option Value) (S' : zx_S) (H1 : Heap) (locs1 : List Loc), Q' r S' → va_P E.1 zx_cl (zx_w lay E S') H1 → (∀ q : Nat, q < H.size → ¬ zx_A lay E q → H1[q]? = H[q]?) → va_S (zl_A s) s.heap H1 locs1 → W p l e room_1 s m #[Value.ref b] below meth c H1 locs1 cells slots Qs (F0 m (pc + 3) ls ((r.map (zx_v E.2.1)).toList ++ rest))) : W p l e room_1 s m #[Value.ref b] below meth c H locs cells slots Qs (F0 m pc ls st0) := by
  obtain ⟨hx, hb, hret, hml, hown, hts0, hX, hbl, hlk0, hgv⟩ := hF
  have hts : ∀ w ∈ zx_WS, w.before #[Value.ref b] s = true := fun w h => hts0 w (List.mem_filter.mp h).1
  obtain ⟨y', hy', hM⟩ := hM
  have hyy : y = y' := Option.some.inj (hy.symm.trans hy')
  subst hyy
  obtain ⟨rfl, f1, f2, f3, f4, f5, f6, f7, f8⟩ := hlk
  have hpre : PreV s H y.1.cls (E.2.1 0) (zx_Pc lay zx_ro E (.ref 0 :: As0) S) (As0.map (zx_v E.2.1)) := ⟨zx_blind, va_recv henv.1 hP hcl (zx_w_at hlay), fun U hU hW => ⟨rfl, by rw [hU]; exact hP, henv.moved hW (fun a h1 h2 => by rw [hU]; exact hS.2.1 a h1 (fun h => Nat.not_le_of_lt h1 h))⟩⟩
  have hgi : ∀ w ∈ zx_ws y, w ∈ zx_WS := fun w hw => (List.mem_cons.mp hw).elim (fun h => h ▸ f7) id
  have hroom : (zx_rm d).frames + 1 ≤ room_1.frames ∧ 8 + (y.2.2.2.1 + 11) + (zx_rm d).locals ≤ room_1.locals := by
    simp only [zx_rm, room_1]
    omega
  have hr := va_runV (l := l) (e := e) (below := below) (meth := meth) (locs := locs) (cells := cells) (slots := slots) (g := F0 m pc ls st0) (rest := rest) ⟨hx, hb, hml, hown, hts⟩ hM (cwV n hts (zx_gin fun w hw => by
    simp only [wsV, List.mem_append, List.mem_cons, List.not_mem_nil, or_false] at hw
    rcases hw with (rfl | rfl | rfl | rfl) | hw
    · exact f3
    · exact f4
    · exact f5
    · exact f6
    · exact hgi w hw) rfl rfl rfl ⟨rfl, f1.1, f1.2, f2⟩ hroom) hpre rfl (by rw [List.length_map]; exact hn) hls hst (lv_room hwd) hdg ⟨hc.1, hc.2⟩
  intro T hT X
  obtain ⟨v, st₀, t, T', L', h0, X', hL, e1, e2, ⟨⟨r, S', hv, hq, hp⟩, hz, hk⟩, st⟩ := hr T hT X
  cases hv
  rw [h0] at hz hk
  obtain ⟨t2, a1, b1⟩ := kk r S' T'.heap (locs ++ L') hq (by rw [e1]; exact hp) (fun q h1 h2 => by rw [e1]; exact hk q h1 h2)
    ⟨Nat.le_trans hS.1 (by rw [e1]; exact hz), fun q h1 h2 => by rw [e1, hk q (Nat.lt_of_lt_of_le h1 hS.1) (fun h => h2 (hAB q h))]; exact hS.2.1 q h1 h2, fun q hq => by
      rcases List.mem_append.mp hq with h | h
      · exact hS.2.2 q h
      · exact hAB _ (hL q h)⟩ T' rfl X'
  exact ⟨t2, st t2 a1, b1⟩
theorem zl_kept {lay : List zx_C} {E E' : zx_E} {lay' : List zx_C} {S : zx_S} {H H1 : Heap} (hP : va_P E.1 zx_cl (zx_w lay E S) H) (hdj : ∀ q, zx_A lay E q → ¬ zx_A lay' E' q) (hk : ∀ q : Nat, q < H.size → ¬ zx_A lay' E' q → H1[q]? = H[q]?) : va_P E.1 zx_cl (zx_w lay E S) H1 := by
  refine hP.kept (fun k q hq => hk q.1 (hP k q hq).lt (hdj q.1 ?_))
  cases hc : lay[k]? with
  | none => rw [zx_w_no hc] at hq; cases hq
  | some c' =>
    rw [zx_w_at hc] at hq
    cases hq
    exact ⟨k, (List.getElem?_eq_some_iff.mp hc).1, rfl⟩
theorem zl_ld {H : Heap} {locs : List Loc} {cells slots pc t : Nat} {Qs : State → Prop} {ls : Array Slot} {rest : List Value} (hF : lw_At p s m meth c b L xs) (hL : L ≤ 2560) (hS : va_S (zl_A s) s.heap H locs) (k : Nat) {kk : Int32} (hkk : nI k = kk) (hlt : t + k < L) (hdg : decode code pc = .ok (.iaload, 1))
    (h : W p l e room_1 s m #[Value.ref b] below meth c H locs cells slots Qs (F0 m (pc + 1) ls (.int (xs (t + k)) :: rest))) : W p l e room_1 s m #[Value.ref b] below meth c H locs cells slots Qs (F0 m pc ls (.int (nI t + kk) :: .ref b :: rest)) := by
  obtain ⟨hx, hb, hret, hml, hown, hts0, hX, hbl, hlk0, hgv⟩ := hF
  subst hkk
  rw [nI_add]
  refine va_sld hx hb hX hbl (fun h => Nat.not_le_of_lt hbl h) hS (vp_in_nI hlt (by omega)) hdg ?_
  rw [nI_clamp (by omega)]
  exact h

theorem wl_5_102 : (Jvm.Cond.constantLong "IntervalPackerLaw" (13 : Nat) (4294967295 : Int64)) ∈ zx_WS := zx_r5 (List.mem_of_getElem? (i := 102) rfl) rfl
theorem wl_1_119 : (Jvm.Cond.methodLink "IntervalPackerLaw" (15 : Nat) ({ cls := "IntervalPacker", name := "feed", desc := "(JIZ)I" } : Jvm.MethodName)) ∈ zx_WS := zx_r1 (List.mem_of_getElem? (i := 119) rfl) rfl
theorem wl_1_120 : (Jvm.Cond.instanceMethod ({ cls := "IntervalPacker", name := "feed", desc := "(JIZ)I" } : Jvm.MethodName)) ∈ zx_WS := zx_r1 (List.mem_of_getElem? (i := 120) rfl) rfl
theorem wl_1_121 : (Jvm.Cond.selects "IntervalPacker" ({ cls := "IntervalPacker", name := "feed", desc := "(JIZ)I" } : Jvm.MethodName) ({ cls := "IntervalPacker", name := "feed", desc := "(JIZ)I" } : Jvm.MethodName)) ∈ zx_WS := zx_r1 (List.mem_of_getElem? (i := 121) rfl) rfl
theorem wl_0_1 : (Jvm.Cond.initialized "IntervalPacker") ∈ zx_WS := zx_r0 (List.mem_of_getElem? (i := 1) rfl) rfl
theorem wl_1_122 : (Jvm.Cond.code ({ cls := "IntervalPacker", name := "feed", desc := "(JIZ)I" } : Jvm.MethodName) prog_1_method_2_code (7 : Nat) (Option.some Jvm.ClassFile.FieldType.int)) ∈ zx_WS := zx_r1 (List.mem_of_getElem? (i := 122) rfl) rfl
theorem lk_0 : zl_lk 15 3 "IntervalPacker" (⟨"IntervalPacker", "feed", "(JIZ)I"⟩, 0, prog_1_method_2_code, 7, (some Jvm.ClassFile.FieldType.int)) := ⟨rfl, ⟨by decide, by decide⟩, (by decide +kernel), wl_1_119, wl_1_120, wl_1_121, wl_0_1, wl_1_122, by decide⟩
theorem wl_4_25 : (Jvm.Cond.methodLink "IntervalPackerLaw" (19 : Nat) ({ cls := "IntervalPackerModel", name := "feed", desc := "(JIZ)I" } : Jvm.MethodName)) ∈ zx_WS := zx_r4 (List.mem_of_getElem? (i := 25) rfl) rfl
theorem wl_4_26 : (Jvm.Cond.instanceMethod ({ cls := "IntervalPackerModel", name := "feed", desc := "(JIZ)I" } : Jvm.MethodName)) ∈ zx_WS := zx_r4 (List.mem_of_getElem? (i := 26) rfl) rfl
theorem wl_4_27 : (Jvm.Cond.selects "IntervalPackerModel" ({ cls := "IntervalPackerModel", name := "feed", desc := "(JIZ)I" } : Jvm.MethodName) ({ cls := "IntervalPackerModel", name := "feed", desc := "(JIZ)I" } : Jvm.MethodName)) ∈ zx_WS := zx_r4 (List.mem_of_getElem? (i := 27) rfl) rfl
theorem wl_0_10 : (Jvm.Cond.initialized "IntervalPackerModel") ∈ zx_WS := zx_r0 (List.mem_of_getElem? (i := 10) rfl) rfl
theorem wl_4_28 : (Jvm.Cond.code ({ cls := "IntervalPackerModel", name := "feed", desc := "(JIZ)I" } : Jvm.MethodName) prog_11_method_2_code (8 : Nat) (Option.some Jvm.ClassFile.FieldType.int)) ∈ zx_WS := zx_r4 (List.mem_of_getElem? (i := 28) rfl) rfl
theorem lk_102 : zl_lk 19 3 "IntervalPackerModel" (⟨"IntervalPackerModel", "feed", "(JIZ)I"⟩, 8, prog_11_method_2_code, 8, (some Jvm.ClassFile.FieldType.int)) := ⟨rfl, ⟨by decide, by decide⟩, (by decide +kernel), wl_4_25, wl_4_26, wl_4_27, wl_0_10, wl_4_28, by decide⟩
set_option maxHeartbeats 4000000 in
set_option maxRecDepth 100000 in
theorem zl_feed (hF : lw_At p s m meth c b L xs) (hE : zl_E s E1 E2) (hL : L ≤ 2560) {t : Nat} (ht : t + 5 ≤ L) {r : Int32} (h1 : zx_MC l E1 0 9 [.ref 0, .long ((zo_lshl ((xs (t + 1))).toInt64 32) ||| (((xs (t + 2))).toInt64 &&& 4294967295)), .int (xs (t + 3)), .int (if (xs (t + 4)) = 0 then 0 else 1)] S1 (fun v S => v = some (.int r) ∧ S = S1')) (h2 : zx_MR l E2 102 9 [.ref 0, .long ((zo_lshl ((xs (t + 1))).toInt64 32) ||| (((xs (t + 2))).toInt64 &&& 4294967295)), .int (xs (t + 3)), .int (if (xs (t + 4)) = 0 then 0 else 1)] S2 (fun v S => v = some (.int r) ∧ S = S2')) (kk : zl_Z p l e s m below meth c b E1 E2 S1' S2' 536 (nI t)) : zl_Z p l e s m below meth c b E1 E2 S1 S2 100 (nI t) := by
  obtain ⟨hx, hb, hret, hml, hown, hts0, hX, hbl, hlk0, hgv⟩ := id hF
  have hts : ∀ w ∈ zx_WS, w.before #[Value.ref b] s = true := fun w h => hts0 w (List.mem_filter.mp h).1
  intro H locs ls hP1 hP2 hS hl
  by_cases hz : (xs (t + 4)) = 0
  · rw [if_pos hz] at h1 h2
    refine lv_aload_n hx hb (by decide +kernel : decode code 100 = .ok (.aload_n 1, 1)) rfl (lv_at hl 1 rfl) ?_
    refine lv_aload_n hx hb (by decide +kernel : decode code 101 = .ok (.aload_n 0, 1)) rfl (lv_at hl 0 rfl) ?_
    refine lv_iload_n hx hb (by decide +kernel : decode code 102 = .ok (.iload_n 3, 1)) rfl (lv_at hl 3 rfl) ?_
    refine lv_iconst (v := 1) hx hb (by decide +kernel : decode code 103 = .ok (.iconst 1, 1)) (by decide) ?_
    refine lv_iadd hx hb (by decide +kernel : decode code 104 = .ok (.iadd, 1)) ?_
    refine zl_ld hF hL hS 1 (kk := 1) rfl (by omega) (by decide +kernel : decode code 105 = .ok (.iaload, 1)) ?_
    refine lv_i2l hx hb (by decide +kernel : decode code 106 = .ok (.i2l, 1)) rfl ?_
    refine lv_bipush (v := 32) hx hb (by decide +kernel : decode code 107 = .ok (.bipush 32, 2)) (by decide) ?_
    refine lv_lshl (v := zo_lshl ((xs (t + 1))).toInt64 32) hx hb (by decide +kernel : decode code 109 = .ok (.lshl, 1)) rfl ?_
    refine lv_aload_n hx hb (by decide +kernel : decode code 110 = .ok (.aload_n 0, 1)) rfl (lv_at hl 0 rfl) ?_
    refine lv_iload_n hx hb (by decide +kernel : decode code 111 = .ok (.iload_n 3, 1)) rfl (lv_at hl 3 rfl) ?_
    refine lv_iconst (v := 2) hx hb (by decide +kernel : decode code 112 = .ok (.iconst 2, 1)) (by decide) ?_
    refine lv_iadd hx hb (by decide +kernel : decode code 113 = .ok (.iadd, 1)) ?_
    refine zl_ld hF hL hS 2 (kk := 2) rfl (by omega) (by decide +kernel : decode code 114 = .ok (.iaload, 1)) ?_
    refine lv_i2l hx hb (by decide +kernel : decode code 115 = .ok (.i2l, 1)) rfl ?_
    refine lv_ldc2 (v := 4294967295) hx hb hown (hts _ wl_5_102) (by decide +kernel : decode code 116 = .ok (.ldc2_w 13, 3)) ?_
    refine lv_land hx hb (by decide +kernel : decode code 119 = .ok (.land, 1)) ?_
    refine lv_lor hx hb (by decide +kernel : decode code 120 = .ok (.lor, 1)) ?_
    refine lv_aload_n hx hb (by decide +kernel : decode code 121 = .ok (.aload_n 0, 1)) rfl (lv_at hl 0 rfl) ?_
    refine lv_iload_n hx hb (by decide +kernel : decode code 122 = .ok (.iload_n 3, 1)) rfl (lv_at hl 3 rfl) ?_
    refine lv_iconst (v := 3) hx hb (by decide +kernel : decode code 123 = .ok (.iconst 3, 1)) (by decide) ?_
    refine lv_iadd hx hb (by decide +kernel : decode code 124 = .ok (.iadd, 1)) ?_
    refine zl_ld hF hL hS 3 (kk := 3) rfl (by omega) (by decide +kernel : decode code 125 = .ok (.iaload, 1)) ?_
    refine lv_aload_n hx hb (by decide +kernel : decode code 126 = .ok (.aload_n 0, 1)) rfl (lv_at hl 0 rfl) ?_
    refine lv_iload_n hx hb (by decide +kernel : decode code 127 = .ok (.iload_n 3, 1)) rfl (lv_at hl 3 rfl) ?_
    refine lv_iconst (v := 4) hx hb (by decide +kernel : decode code 128 = .ok (.iconst 4, 1)) (by decide) ?_
    refine lv_iadd hx hb (by decide +kernel : decode code 129 = .ok (.iadd, 1)) ?_
    refine zl_ld hF hL hS 4 (kk := 4) rfl (by omega) (by decide +kernel : decode code 130 = .ok (.iaload, 1)) ?_
    refine lv_if_eq (tgt := 138) hx hb (by decide +kernel : decode code 131 = .ok (.ifCond .eq 7, 3)) (by decide) (fun _ => ?_) (fun h => absurd hz h)
    refine lv_iconst (v := 0) hx hb (by decide +kernel : decode code 138 = .ok (.iconst 0, 1)) (by decide) ?_
    refine zl_call (lay := zx_LC) (E := E1) (As0 := [.long ((zo_lshl ((xs (t + 1))).toInt64 32) ||| (((xs (t + 2))).toInt64 &&& 4294967295)), .int (xs (t + 3)), .int 0]) (rest := []) hF hE.1 h1 (Nat.le_refl 9) rfl rfl rfl lk_0 hE.2.2.1 ⟨Nat.le_of_ble_eq_true rfl, Nat.le_of_ble_eq_true rfl⟩ rfl rfl (Nat.le_of_ble_eq_true rfl) (by decide +kernel : decode code 139 = .ok (.invokevirtual 15, 3)) hP1 hS hl.1 (fun v S H1 locs hq hP1 hk hS => ?_)
    obtain ⟨rfl, rfl⟩ := hq
    have hP2 := zl_kept hP2 (fun q h1 h2 => hE.2.2.2.2 q h2 h1) hk
    generalize H1 = H at hP1 hP2 hS ⊢
    refine lv_aload_n hx hb (by decide +kernel : decode code 142 = .ok (.aload_n 2, 1)) rfl (lv_at hl 2 rfl) ?_
    refine lv_aload_n hx hb (by decide +kernel : decode code 143 = .ok (.aload_n 0, 1)) rfl (lv_at hl 0 rfl) ?_
    refine lv_iload_n hx hb (by decide +kernel : decode code 144 = .ok (.iload_n 3, 1)) rfl (lv_at hl 3 rfl) ?_
    refine lv_iconst (v := 1) hx hb (by decide +kernel : decode code 145 = .ok (.iconst 1, 1)) (by decide) ?_
    refine lv_iadd hx hb (by decide +kernel : decode code 146 = .ok (.iadd, 1)) ?_
    refine zl_ld hF hL hS 1 (kk := 1) rfl (by omega) (by decide +kernel : decode code 147 = .ok (.iaload, 1)) ?_
    refine lv_i2l hx hb (by decide +kernel : decode code 148 = .ok (.i2l, 1)) rfl ?_
    refine lv_bipush (v := 32) hx hb (by decide +kernel : decode code 149 = .ok (.bipush 32, 2)) (by decide) ?_
    refine lv_lshl (v := zo_lshl ((xs (t + 1))).toInt64 32) hx hb (by decide +kernel : decode code 151 = .ok (.lshl, 1)) rfl ?_
    refine lv_aload_n hx hb (by decide +kernel : decode code 152 = .ok (.aload_n 0, 1)) rfl (lv_at hl 0 rfl) ?_
    refine lv_iload_n hx hb (by decide +kernel : decode code 153 = .ok (.iload_n 3, 1)) rfl (lv_at hl 3 rfl) ?_
    refine lv_iconst (v := 2) hx hb (by decide +kernel : decode code 154 = .ok (.iconst 2, 1)) (by decide) ?_
    refine lv_iadd hx hb (by decide +kernel : decode code 155 = .ok (.iadd, 1)) ?_
    refine zl_ld hF hL hS 2 (kk := 2) rfl (by omega) (by decide +kernel : decode code 156 = .ok (.iaload, 1)) ?_
    refine lv_i2l hx hb (by decide +kernel : decode code 157 = .ok (.i2l, 1)) rfl ?_
    refine lv_ldc2 (v := 4294967295) hx hb hown (hts _ wl_5_102) (by decide +kernel : decode code 158 = .ok (.ldc2_w 13, 3)) ?_
    refine lv_land hx hb (by decide +kernel : decode code 161 = .ok (.land, 1)) ?_
    refine lv_lor hx hb (by decide +kernel : decode code 162 = .ok (.lor, 1)) ?_
    refine lv_aload_n hx hb (by decide +kernel : decode code 163 = .ok (.aload_n 0, 1)) rfl (lv_at hl 0 rfl) ?_
    refine lv_iload_n hx hb (by decide +kernel : decode code 164 = .ok (.iload_n 3, 1)) rfl (lv_at hl 3 rfl) ?_
    refine lv_iconst (v := 3) hx hb (by decide +kernel : decode code 165 = .ok (.iconst 3, 1)) (by decide) ?_
    refine lv_iadd hx hb (by decide +kernel : decode code 166 = .ok (.iadd, 1)) ?_
    refine zl_ld hF hL hS 3 (kk := 3) rfl (by omega) (by decide +kernel : decode code 167 = .ok (.iaload, 1)) ?_
    refine lv_aload_n hx hb (by decide +kernel : decode code 168 = .ok (.aload_n 0, 1)) rfl (lv_at hl 0 rfl) ?_
    refine lv_iload_n hx hb (by decide +kernel : decode code 169 = .ok (.iload_n 3, 1)) rfl (lv_at hl 3 rfl) ?_
    refine lv_iconst (v := 4) hx hb (by decide +kernel : decode code 170 = .ok (.iconst 4, 1)) (by decide) ?_
    refine lv_iadd hx hb (by decide +kernel : decode code 171 = .ok (.iadd, 1)) ?_
    refine zl_ld hF hL hS 4 (kk := 4) rfl (by omega) (by decide +kernel : decode code 172 = .ok (.iaload, 1)) ?_
    refine lv_if_eq (tgt := 180) hx hb (by decide +kernel : decode code 173 = .ok (.ifCond .eq 7, 3)) (by decide) (fun _ => ?_) (fun h => absurd hz h)
    refine lv_iconst (v := 0) hx hb (by decide +kernel : decode code 180 = .ok (.iconst 0, 1)) (by decide) ?_
    refine zl_call (lay := zx_LR) (E := E2) (As0 := [.long ((zo_lshl ((xs (t + 1))).toInt64 32) ||| (((xs (t + 2))).toInt64 &&& 4294967295)), .int (xs (t + 3)), .int 0]) (rest := [.int r]) hF hE.2.1 h2 (Nat.le_refl 9) rfl rfl rfl lk_102 hE.2.2.2.1 ⟨Nat.le_of_ble_eq_true rfl, Nat.le_of_ble_eq_true rfl⟩ rfl rfl (Nat.le_of_ble_eq_true rfl) (by decide +kernel : decode code 181 = .ok (.invokevirtual 19, 3)) hP2 hS hl.1 (fun v S H1 locs hq hP2 hk hS => ?_)
    obtain ⟨rfl, rfl⟩ := hq
    have hP1 := zl_kept hP1 hE.2.2.2.2 hk
    generalize H1 = H at hP1 hP2 hS ⊢
    exact lv_icmp_eq (tgt := 536) hx hb (by decide +kernel : decode code 184 = .ok (.if_icmp .eq 352, 3)) (by decide) (fun _ => kk H locs ls hP1 hP2 hS hl) (fun h => absurd rfl h)
  · rw [if_neg hz] at h1 h2
    refine lv_aload_n hx hb (by decide +kernel : decode code 100 = .ok (.aload_n 1, 1)) rfl (lv_at hl 1 rfl) ?_
    refine lv_aload_n hx hb (by decide +kernel : decode code 101 = .ok (.aload_n 0, 1)) rfl (lv_at hl 0 rfl) ?_
    refine lv_iload_n hx hb (by decide +kernel : decode code 102 = .ok (.iload_n 3, 1)) rfl (lv_at hl 3 rfl) ?_
    refine lv_iconst (v := 1) hx hb (by decide +kernel : decode code 103 = .ok (.iconst 1, 1)) (by decide) ?_
    refine lv_iadd hx hb (by decide +kernel : decode code 104 = .ok (.iadd, 1)) ?_
    refine zl_ld hF hL hS 1 (kk := 1) rfl (by omega) (by decide +kernel : decode code 105 = .ok (.iaload, 1)) ?_
    refine lv_i2l hx hb (by decide +kernel : decode code 106 = .ok (.i2l, 1)) rfl ?_
    refine lv_bipush (v := 32) hx hb (by decide +kernel : decode code 107 = .ok (.bipush 32, 2)) (by decide) ?_
    refine lv_lshl (v := zo_lshl ((xs (t + 1))).toInt64 32) hx hb (by decide +kernel : decode code 109 = .ok (.lshl, 1)) rfl ?_
    refine lv_aload_n hx hb (by decide +kernel : decode code 110 = .ok (.aload_n 0, 1)) rfl (lv_at hl 0 rfl) ?_
    refine lv_iload_n hx hb (by decide +kernel : decode code 111 = .ok (.iload_n 3, 1)) rfl (lv_at hl 3 rfl) ?_
    refine lv_iconst (v := 2) hx hb (by decide +kernel : decode code 112 = .ok (.iconst 2, 1)) (by decide) ?_
    refine lv_iadd hx hb (by decide +kernel : decode code 113 = .ok (.iadd, 1)) ?_
    refine zl_ld hF hL hS 2 (kk := 2) rfl (by omega) (by decide +kernel : decode code 114 = .ok (.iaload, 1)) ?_
    refine lv_i2l hx hb (by decide +kernel : decode code 115 = .ok (.i2l, 1)) rfl ?_
    refine lv_ldc2 (v := 4294967295) hx hb hown (hts _ wl_5_102) (by decide +kernel : decode code 116 = .ok (.ldc2_w 13, 3)) ?_
    refine lv_land hx hb (by decide +kernel : decode code 119 = .ok (.land, 1)) ?_
    refine lv_lor hx hb (by decide +kernel : decode code 120 = .ok (.lor, 1)) ?_
    refine lv_aload_n hx hb (by decide +kernel : decode code 121 = .ok (.aload_n 0, 1)) rfl (lv_at hl 0 rfl) ?_
    refine lv_iload_n hx hb (by decide +kernel : decode code 122 = .ok (.iload_n 3, 1)) rfl (lv_at hl 3 rfl) ?_
    refine lv_iconst (v := 3) hx hb (by decide +kernel : decode code 123 = .ok (.iconst 3, 1)) (by decide) ?_
    refine lv_iadd hx hb (by decide +kernel : decode code 124 = .ok (.iadd, 1)) ?_
    refine zl_ld hF hL hS 3 (kk := 3) rfl (by omega) (by decide +kernel : decode code 125 = .ok (.iaload, 1)) ?_
    refine lv_aload_n hx hb (by decide +kernel : decode code 126 = .ok (.aload_n 0, 1)) rfl (lv_at hl 0 rfl) ?_
    refine lv_iload_n hx hb (by decide +kernel : decode code 127 = .ok (.iload_n 3, 1)) rfl (lv_at hl 3 rfl) ?_
    refine lv_iconst (v := 4) hx hb (by decide +kernel : decode code 128 = .ok (.iconst 4, 1)) (by decide) ?_
    refine lv_iadd hx hb (by decide +kernel : decode code 129 = .ok (.iadd, 1)) ?_
    refine zl_ld hF hL hS 4 (kk := 4) rfl (by omega) (by decide +kernel : decode code 130 = .ok (.iaload, 1)) ?_
    refine lv_if_eq (tgt := 138) hx hb (by decide +kernel : decode code 131 = .ok (.ifCond .eq 7, 3)) (by decide) (fun h => absurd h hz) (fun _ => ?_)
    refine lv_iconst (v := 1) hx hb (by decide +kernel : decode code 134 = .ok (.iconst 1, 1)) (by decide) ?_
    refine lv_goto (tgt := 139) hx hb (by decide +kernel : decode code 135 = .ok (.goto 4, 3)) (by decide) ?_
    refine zl_call (lay := zx_LC) (E := E1) (As0 := [.long ((zo_lshl ((xs (t + 1))).toInt64 32) ||| (((xs (t + 2))).toInt64 &&& 4294967295)), .int (xs (t + 3)), .int 1]) (rest := []) hF hE.1 h1 (Nat.le_refl 9) rfl rfl rfl lk_0 hE.2.2.1 ⟨Nat.le_of_ble_eq_true rfl, Nat.le_of_ble_eq_true rfl⟩ rfl rfl (Nat.le_of_ble_eq_true rfl) (by decide +kernel : decode code 139 = .ok (.invokevirtual 15, 3)) hP1 hS hl.1 (fun v S H1 locs hq hP1 hk hS => ?_)
    obtain ⟨rfl, rfl⟩ := hq
    have hP2 := zl_kept hP2 (fun q h1 h2 => hE.2.2.2.2 q h2 h1) hk
    generalize H1 = H at hP1 hP2 hS ⊢
    refine lv_aload_n hx hb (by decide +kernel : decode code 142 = .ok (.aload_n 2, 1)) rfl (lv_at hl 2 rfl) ?_
    refine lv_aload_n hx hb (by decide +kernel : decode code 143 = .ok (.aload_n 0, 1)) rfl (lv_at hl 0 rfl) ?_
    refine lv_iload_n hx hb (by decide +kernel : decode code 144 = .ok (.iload_n 3, 1)) rfl (lv_at hl 3 rfl) ?_
    refine lv_iconst (v := 1) hx hb (by decide +kernel : decode code 145 = .ok (.iconst 1, 1)) (by decide) ?_
    refine lv_iadd hx hb (by decide +kernel : decode code 146 = .ok (.iadd, 1)) ?_
    refine zl_ld hF hL hS 1 (kk := 1) rfl (by omega) (by decide +kernel : decode code 147 = .ok (.iaload, 1)) ?_
    refine lv_i2l hx hb (by decide +kernel : decode code 148 = .ok (.i2l, 1)) rfl ?_
    refine lv_bipush (v := 32) hx hb (by decide +kernel : decode code 149 = .ok (.bipush 32, 2)) (by decide) ?_
    refine lv_lshl (v := zo_lshl ((xs (t + 1))).toInt64 32) hx hb (by decide +kernel : decode code 151 = .ok (.lshl, 1)) rfl ?_
    refine lv_aload_n hx hb (by decide +kernel : decode code 152 = .ok (.aload_n 0, 1)) rfl (lv_at hl 0 rfl) ?_
    refine lv_iload_n hx hb (by decide +kernel : decode code 153 = .ok (.iload_n 3, 1)) rfl (lv_at hl 3 rfl) ?_
    refine lv_iconst (v := 2) hx hb (by decide +kernel : decode code 154 = .ok (.iconst 2, 1)) (by decide) ?_
    refine lv_iadd hx hb (by decide +kernel : decode code 155 = .ok (.iadd, 1)) ?_
    refine zl_ld hF hL hS 2 (kk := 2) rfl (by omega) (by decide +kernel : decode code 156 = .ok (.iaload, 1)) ?_
    refine lv_i2l hx hb (by decide +kernel : decode code 157 = .ok (.i2l, 1)) rfl ?_
    refine lv_ldc2 (v := 4294967295) hx hb hown (hts _ wl_5_102) (by decide +kernel : decode code 158 = .ok (.ldc2_w 13, 3)) ?_
    refine lv_land hx hb (by decide +kernel : decode code 161 = .ok (.land, 1)) ?_
    refine lv_lor hx hb (by decide +kernel : decode code 162 = .ok (.lor, 1)) ?_
    refine lv_aload_n hx hb (by decide +kernel : decode code 163 = .ok (.aload_n 0, 1)) rfl (lv_at hl 0 rfl) ?_
    refine lv_iload_n hx hb (by decide +kernel : decode code 164 = .ok (.iload_n 3, 1)) rfl (lv_at hl 3 rfl) ?_
    refine lv_iconst (v := 3) hx hb (by decide +kernel : decode code 165 = .ok (.iconst 3, 1)) (by decide) ?_
    refine lv_iadd hx hb (by decide +kernel : decode code 166 = .ok (.iadd, 1)) ?_
    refine zl_ld hF hL hS 3 (kk := 3) rfl (by omega) (by decide +kernel : decode code 167 = .ok (.iaload, 1)) ?_
    refine lv_aload_n hx hb (by decide +kernel : decode code 168 = .ok (.aload_n 0, 1)) rfl (lv_at hl 0 rfl) ?_
    refine lv_iload_n hx hb (by decide +kernel : decode code 169 = .ok (.iload_n 3, 1)) rfl (lv_at hl 3 rfl) ?_
    refine lv_iconst (v := 4) hx hb (by decide +kernel : decode code 170 = .ok (.iconst 4, 1)) (by decide) ?_
    refine lv_iadd hx hb (by decide +kernel : decode code 171 = .ok (.iadd, 1)) ?_
    refine zl_ld hF hL hS 4 (kk := 4) rfl (by omega) (by decide +kernel : decode code 172 = .ok (.iaload, 1)) ?_
    refine lv_if_eq (tgt := 180) hx hb (by decide +kernel : decode code 173 = .ok (.ifCond .eq 7, 3)) (by decide) (fun h => absurd h hz) (fun _ => ?_)
    refine lv_iconst (v := 1) hx hb (by decide +kernel : decode code 176 = .ok (.iconst 1, 1)) (by decide) ?_
    refine lv_goto (tgt := 181) hx hb (by decide +kernel : decode code 177 = .ok (.goto 4, 3)) (by decide) ?_
    refine zl_call (lay := zx_LR) (E := E2) (As0 := [.long ((zo_lshl ((xs (t + 1))).toInt64 32) ||| (((xs (t + 2))).toInt64 &&& 4294967295)), .int (xs (t + 3)), .int 1]) (rest := [.int r]) hF hE.2.1 h2 (Nat.le_refl 9) rfl rfl rfl lk_102 hE.2.2.2.1 ⟨Nat.le_of_ble_eq_true rfl, Nat.le_of_ble_eq_true rfl⟩ rfl rfl (Nat.le_of_ble_eq_true rfl) (by decide +kernel : decode code 181 = .ok (.invokevirtual 19, 3)) hP2 hS hl.1 (fun v S H1 locs hq hP2 hk hS => ?_)
    obtain ⟨rfl, rfl⟩ := hq
    have hP1 := zl_kept hP1 hE.2.2.2.2 hk
    generalize H1 = H at hP1 hP2 hS ⊢
    exact lv_icmp_eq (tgt := 536) hx hb (by decide +kernel : decode code 184 = .ok (.if_icmp .eq 352, 3)) (by decide) (fun _ => kk H locs ls hP1 hP2 hS hl) (fun h => absurd rfl h)
theorem wl_1_135 : (Jvm.Cond.methodLink "IntervalPackerLaw" (20 : Nat) ({ cls := "IntervalPacker", name := "copy", desc := "(II)I" } : Jvm.MethodName)) ∈ zx_WS := zx_r1 (List.mem_of_getElem? (i := 135) rfl) rfl
theorem wl_1_136 : (Jvm.Cond.instanceMethod ({ cls := "IntervalPacker", name := "copy", desc := "(II)I" } : Jvm.MethodName)) ∈ zx_WS := zx_r1 (List.mem_of_getElem? (i := 136) rfl) rfl
theorem wl_1_137 : (Jvm.Cond.selects "IntervalPacker" ({ cls := "IntervalPacker", name := "copy", desc := "(II)I" } : Jvm.MethodName) ({ cls := "IntervalPacker", name := "copy", desc := "(II)I" } : Jvm.MethodName)) ∈ zx_WS := zx_r1 (List.mem_of_getElem? (i := 137) rfl) rfl
theorem wl_1_138 : (Jvm.Cond.code ({ cls := "IntervalPacker", name := "copy", desc := "(II)I" } : Jvm.MethodName) prog_1_method_3_code (3 : Nat) (Option.some Jvm.ClassFile.FieldType.int)) ∈ zx_WS := zx_r1 (List.mem_of_getElem? (i := 138) rfl) rfl
theorem lk_1 : zl_lk 20 2 "IntervalPacker" (⟨"IntervalPacker", "copy", "(II)I"⟩, 0, prog_1_method_3_code, 3, (some Jvm.ClassFile.FieldType.int)) := ⟨rfl, ⟨by decide, by decide⟩, (by decide +kernel), wl_1_135, wl_1_136, wl_1_137, wl_0_1, wl_1_138, by decide⟩
theorem wl_4_30 : (Jvm.Cond.methodLink "IntervalPackerLaw" (24 : Nat) ({ cls := "IntervalPackerModel", name := "copy", desc := "(II)I" } : Jvm.MethodName)) ∈ zx_WS := zx_r4 (List.mem_of_getElem? (i := 30) rfl) rfl
theorem wl_4_31 : (Jvm.Cond.instanceMethod ({ cls := "IntervalPackerModel", name := "copy", desc := "(II)I" } : Jvm.MethodName)) ∈ zx_WS := zx_r4 (List.mem_of_getElem? (i := 31) rfl) rfl
theorem wl_4_32 : (Jvm.Cond.selects "IntervalPackerModel" ({ cls := "IntervalPackerModel", name := "copy", desc := "(II)I" } : Jvm.MethodName) ({ cls := "IntervalPackerModel", name := "copy", desc := "(II)I" } : Jvm.MethodName)) ∈ zx_WS := zx_r4 (List.mem_of_getElem? (i := 32) rfl) rfl
theorem wl_4_33 : (Jvm.Cond.code ({ cls := "IntervalPackerModel", name := "copy", desc := "(II)I" } : Jvm.MethodName) prog_11_method_3_code (4 : Nat) (Option.some Jvm.ClassFile.FieldType.int)) ∈ zx_WS := zx_r4 (List.mem_of_getElem? (i := 33) rfl) rfl
theorem lk_103 : zl_lk 24 2 "IntervalPackerModel" (⟨"IntervalPackerModel", "copy", "(II)I"⟩, 8, prog_11_method_3_code, 4, (some Jvm.ClassFile.FieldType.int)) := ⟨rfl, ⟨by decide, by decide⟩, (by decide +kernel), wl_4_30, wl_4_31, wl_4_32, wl_0_10, wl_4_33, by decide⟩
set_option maxHeartbeats 4000000 in
set_option maxRecDepth 100000 in
theorem zl_copy (hF : lw_At p s m meth c b L xs) (hE : zl_E s E1 E2) (hL : L ≤ 2560) {t : Nat} (ht : t + 5 ≤ L) {r : Int32} (h1 : zx_MC l E1 1 9 [.ref 0, .int (xs (t + 1)), .int (xs (t + 2))] S1 (fun v S => v = some (.int r) ∧ S = S1')) (h2 : zx_MR l E2 103 9 [.ref 0, .int (xs (t + 1)), .int (xs (t + 2))] S2 (fun v S => v = some (.int r) ∧ S = S2')) (kk : zl_Z p l e s m below meth c b E1 E2 S1' S2' 536 (nI t)) : zl_Z p l e s m below meth c b E1 E2 S1 S2 189 (nI t) := by
  obtain ⟨hx, hb, hret, hml, hown, hts0, hX, hbl, hlk0, hgv⟩ := id hF
  have hts : ∀ w ∈ zx_WS, w.before #[Value.ref b] s = true := fun w h => hts0 w (List.mem_filter.mp h).1
  intro H locs ls hP1 hP2 hS hl
  refine lv_aload_n hx hb (by decide +kernel : decode code 189 = .ok (.aload_n 1, 1)) rfl (lv_at hl 1 rfl) ?_
  refine lv_aload_n hx hb (by decide +kernel : decode code 190 = .ok (.aload_n 0, 1)) rfl (lv_at hl 0 rfl) ?_
  refine lv_iload_n hx hb (by decide +kernel : decode code 191 = .ok (.iload_n 3, 1)) rfl (lv_at hl 3 rfl) ?_
  refine lv_iconst (v := 1) hx hb (by decide +kernel : decode code 192 = .ok (.iconst 1, 1)) (by decide) ?_
  refine lv_iadd hx hb (by decide +kernel : decode code 193 = .ok (.iadd, 1)) ?_
  refine zl_ld hF hL hS 1 (kk := 1) rfl (by omega) (by decide +kernel : decode code 194 = .ok (.iaload, 1)) ?_
  refine lv_aload_n hx hb (by decide +kernel : decode code 195 = .ok (.aload_n 0, 1)) rfl (lv_at hl 0 rfl) ?_
  refine lv_iload_n hx hb (by decide +kernel : decode code 196 = .ok (.iload_n 3, 1)) rfl (lv_at hl 3 rfl) ?_
  refine lv_iconst (v := 2) hx hb (by decide +kernel : decode code 197 = .ok (.iconst 2, 1)) (by decide) ?_
  refine lv_iadd hx hb (by decide +kernel : decode code 198 = .ok (.iadd, 1)) ?_
  refine zl_ld hF hL hS 2 (kk := 2) rfl (by omega) (by decide +kernel : decode code 199 = .ok (.iaload, 1)) ?_
  refine zl_call (lay := zx_LC) (E := E1) (As0 := [.int (xs (t + 1)), .int (xs (t + 2))]) (rest := []) hF hE.1 h1 (Nat.le_refl 9) rfl rfl rfl lk_1 hE.2.2.1 ⟨Nat.le_of_ble_eq_true rfl, Nat.le_of_ble_eq_true rfl⟩ rfl rfl (Nat.le_of_ble_eq_true rfl) (by decide +kernel : decode code 200 = .ok (.invokevirtual 20, 3)) hP1 hS hl.1 (fun v S H1 locs hq hP1 hk hS => ?_)
  obtain ⟨rfl, rfl⟩ := hq
  have hP2 := zl_kept hP2 (fun q h1 h2 => hE.2.2.2.2 q h2 h1) hk
  generalize H1 = H at hP1 hP2 hS ⊢
  refine lv_aload_n hx hb (by decide +kernel : decode code 203 = .ok (.aload_n 2, 1)) rfl (lv_at hl 2 rfl) ?_
  refine lv_aload_n hx hb (by decide +kernel : decode code 204 = .ok (.aload_n 0, 1)) rfl (lv_at hl 0 rfl) ?_
  refine lv_iload_n hx hb (by decide +kernel : decode code 205 = .ok (.iload_n 3, 1)) rfl (lv_at hl 3 rfl) ?_
  refine lv_iconst (v := 1) hx hb (by decide +kernel : decode code 206 = .ok (.iconst 1, 1)) (by decide) ?_
  refine lv_iadd hx hb (by decide +kernel : decode code 207 = .ok (.iadd, 1)) ?_
  refine zl_ld hF hL hS 1 (kk := 1) rfl (by omega) (by decide +kernel : decode code 208 = .ok (.iaload, 1)) ?_
  refine lv_aload_n hx hb (by decide +kernel : decode code 209 = .ok (.aload_n 0, 1)) rfl (lv_at hl 0 rfl) ?_
  refine lv_iload_n hx hb (by decide +kernel : decode code 210 = .ok (.iload_n 3, 1)) rfl (lv_at hl 3 rfl) ?_
  refine lv_iconst (v := 2) hx hb (by decide +kernel : decode code 211 = .ok (.iconst 2, 1)) (by decide) ?_
  refine lv_iadd hx hb (by decide +kernel : decode code 212 = .ok (.iadd, 1)) ?_
  refine zl_ld hF hL hS 2 (kk := 2) rfl (by omega) (by decide +kernel : decode code 213 = .ok (.iaload, 1)) ?_
  refine zl_call (lay := zx_LR) (E := E2) (As0 := [.int (xs (t + 1)), .int (xs (t + 2))]) (rest := [.int r]) hF hE.2.1 h2 (Nat.le_refl 9) rfl rfl rfl lk_103 hE.2.2.2.1 ⟨Nat.le_of_ble_eq_true rfl, Nat.le_of_ble_eq_true rfl⟩ rfl rfl (Nat.le_of_ble_eq_true rfl) (by decide +kernel : decode code 214 = .ok (.invokevirtual 24, 3)) hP2 hS hl.1 (fun v S H1 locs hq hP2 hk hS => ?_)
  obtain ⟨rfl, rfl⟩ := hq
  have hP1 := zl_kept hP1 hE.2.2.2.2 hk
  generalize H1 = H at hP1 hP2 hS ⊢
  exact lv_icmp_eq (tgt := 536) hx hb (by decide +kernel : decode code 217 = .ok (.if_icmp .eq 319, 3)) (by decide) (fun _ => kk H locs ls hP1 hP2 hS hl) (fun h => absurd rfl h)
theorem wl_1_148 : (Jvm.Cond.methodLink "IntervalPackerLaw" (25 : Nat) ({ cls := "IntervalPacker", name := "cut", desc := "(IZ)I" } : Jvm.MethodName)) ∈ zx_WS := zx_r1 (List.mem_of_getElem? (i := 148) rfl) rfl
theorem wl_1_149 : (Jvm.Cond.instanceMethod ({ cls := "IntervalPacker", name := "cut", desc := "(IZ)I" } : Jvm.MethodName)) ∈ zx_WS := zx_r1 (List.mem_of_getElem? (i := 149) rfl) rfl
theorem wl_1_150 : (Jvm.Cond.selects "IntervalPacker" ({ cls := "IntervalPacker", name := "cut", desc := "(IZ)I" } : Jvm.MethodName) ({ cls := "IntervalPacker", name := "cut", desc := "(IZ)I" } : Jvm.MethodName)) ∈ zx_WS := zx_r1 (List.mem_of_getElem? (i := 150) rfl) rfl
theorem wl_1_151 : (Jvm.Cond.code ({ cls := "IntervalPacker", name := "cut", desc := "(IZ)I" } : Jvm.MethodName) prog_1_method_4_code (5 : Nat) (Option.some Jvm.ClassFile.FieldType.int)) ∈ zx_WS := zx_r1 (List.mem_of_getElem? (i := 151) rfl) rfl
theorem lk_2 : zl_lk 25 2 "IntervalPacker" (⟨"IntervalPacker", "cut", "(IZ)I"⟩, 0, prog_1_method_4_code, 5, (some Jvm.ClassFile.FieldType.int)) := ⟨rfl, ⟨by decide, by decide⟩, (by decide +kernel), wl_1_148, wl_1_149, wl_1_150, wl_0_1, wl_1_151, by decide⟩
theorem wl_4_34 : (Jvm.Cond.methodLink "IntervalPackerLaw" (29 : Nat) ({ cls := "IntervalPackerModel", name := "cut", desc := "(IZ)I" } : Jvm.MethodName)) ∈ zx_WS := zx_r4 (List.mem_of_getElem? (i := 34) rfl) rfl
theorem wl_4_35 : (Jvm.Cond.instanceMethod ({ cls := "IntervalPackerModel", name := "cut", desc := "(IZ)I" } : Jvm.MethodName)) ∈ zx_WS := zx_r4 (List.mem_of_getElem? (i := 35) rfl) rfl
theorem wl_4_36 : (Jvm.Cond.selects "IntervalPackerModel" ({ cls := "IntervalPackerModel", name := "cut", desc := "(IZ)I" } : Jvm.MethodName) ({ cls := "IntervalPackerModel", name := "cut", desc := "(IZ)I" } : Jvm.MethodName)) ∈ zx_WS := zx_r4 (List.mem_of_getElem? (i := 36) rfl) rfl
theorem wl_4_37 : (Jvm.Cond.code ({ cls := "IntervalPackerModel", name := "cut", desc := "(IZ)I" } : Jvm.MethodName) prog_11_method_4_code (4 : Nat) (Option.some Jvm.ClassFile.FieldType.int)) ∈ zx_WS := zx_r4 (List.mem_of_getElem? (i := 37) rfl) rfl
theorem lk_104 : zl_lk 29 2 "IntervalPackerModel" (⟨"IntervalPackerModel", "cut", "(IZ)I"⟩, 8, prog_11_method_4_code, 4, (some Jvm.ClassFile.FieldType.int)) := ⟨rfl, ⟨by decide, by decide⟩, (by decide +kernel), wl_4_34, wl_4_35, wl_4_36, wl_0_10, wl_4_37, by decide⟩
set_option maxHeartbeats 4000000 in
set_option maxRecDepth 100000 in
theorem zl_cut (hF : lw_At p s m meth c b L xs) (hE : zl_E s E1 E2) (hL : L ≤ 2560) {t : Nat} (ht : t + 5 ≤ L) {r : Int32} (h1 : zx_MC l E1 2 9 [.ref 0, .int (xs (t + 1)), .int (if (xs (t + 2)) = 0 then 0 else 1)] S1 (fun v S => v = some (.int r) ∧ S = S1')) (h2 : zx_MR l E2 104 9 [.ref 0, .int (xs (t + 1)), .int (if (xs (t + 2)) = 0 then 0 else 1)] S2 (fun v S => v = some (.int r) ∧ S = S2')) (kk : zl_Z p l e s m below meth c b E1 E2 S1' S2' 536 (nI t)) : zl_Z p l e s m below meth c b E1 E2 S1 S2 222 (nI t) := by
  obtain ⟨hx, hb, hret, hml, hown, hts0, hX, hbl, hlk0, hgv⟩ := id hF
  have hts : ∀ w ∈ zx_WS, w.before #[Value.ref b] s = true := fun w h => hts0 w (List.mem_filter.mp h).1
  intro H locs ls hP1 hP2 hS hl
  by_cases hz : (xs (t + 2)) = 0
  · rw [if_pos hz] at h1 h2
    refine lv_aload_n hx hb (by decide +kernel : decode code 222 = .ok (.aload_n 1, 1)) rfl (lv_at hl 1 rfl) ?_
    refine lv_aload_n hx hb (by decide +kernel : decode code 223 = .ok (.aload_n 0, 1)) rfl (lv_at hl 0 rfl) ?_
    refine lv_iload_n hx hb (by decide +kernel : decode code 224 = .ok (.iload_n 3, 1)) rfl (lv_at hl 3 rfl) ?_
    refine lv_iconst (v := 1) hx hb (by decide +kernel : decode code 225 = .ok (.iconst 1, 1)) (by decide) ?_
    refine lv_iadd hx hb (by decide +kernel : decode code 226 = .ok (.iadd, 1)) ?_
    refine zl_ld hF hL hS 1 (kk := 1) rfl (by omega) (by decide +kernel : decode code 227 = .ok (.iaload, 1)) ?_
    refine lv_aload_n hx hb (by decide +kernel : decode code 228 = .ok (.aload_n 0, 1)) rfl (lv_at hl 0 rfl) ?_
    refine lv_iload_n hx hb (by decide +kernel : decode code 229 = .ok (.iload_n 3, 1)) rfl (lv_at hl 3 rfl) ?_
    refine lv_iconst (v := 2) hx hb (by decide +kernel : decode code 230 = .ok (.iconst 2, 1)) (by decide) ?_
    refine lv_iadd hx hb (by decide +kernel : decode code 231 = .ok (.iadd, 1)) ?_
    refine zl_ld hF hL hS 2 (kk := 2) rfl (by omega) (by decide +kernel : decode code 232 = .ok (.iaload, 1)) ?_
    refine lv_if_eq (tgt := 240) hx hb (by decide +kernel : decode code 233 = .ok (.ifCond .eq 7, 3)) (by decide) (fun _ => ?_) (fun h => absurd hz h)
    refine lv_iconst (v := 0) hx hb (by decide +kernel : decode code 240 = .ok (.iconst 0, 1)) (by decide) ?_
    refine zl_call (lay := zx_LC) (E := E1) (As0 := [.int (xs (t + 1)), .int 0]) (rest := []) hF hE.1 h1 (Nat.le_refl 9) rfl rfl rfl lk_2 hE.2.2.1 ⟨Nat.le_of_ble_eq_true rfl, Nat.le_of_ble_eq_true rfl⟩ rfl rfl (Nat.le_of_ble_eq_true rfl) (by decide +kernel : decode code 241 = .ok (.invokevirtual 25, 3)) hP1 hS hl.1 (fun v S H1 locs hq hP1 hk hS => ?_)
    obtain ⟨rfl, rfl⟩ := hq
    have hP2 := zl_kept hP2 (fun q h1 h2 => hE.2.2.2.2 q h2 h1) hk
    generalize H1 = H at hP1 hP2 hS ⊢
    refine lv_aload_n hx hb (by decide +kernel : decode code 244 = .ok (.aload_n 2, 1)) rfl (lv_at hl 2 rfl) ?_
    refine lv_aload_n hx hb (by decide +kernel : decode code 245 = .ok (.aload_n 0, 1)) rfl (lv_at hl 0 rfl) ?_
    refine lv_iload_n hx hb (by decide +kernel : decode code 246 = .ok (.iload_n 3, 1)) rfl (lv_at hl 3 rfl) ?_
    refine lv_iconst (v := 1) hx hb (by decide +kernel : decode code 247 = .ok (.iconst 1, 1)) (by decide) ?_
    refine lv_iadd hx hb (by decide +kernel : decode code 248 = .ok (.iadd, 1)) ?_
    refine zl_ld hF hL hS 1 (kk := 1) rfl (by omega) (by decide +kernel : decode code 249 = .ok (.iaload, 1)) ?_
    refine lv_aload_n hx hb (by decide +kernel : decode code 250 = .ok (.aload_n 0, 1)) rfl (lv_at hl 0 rfl) ?_
    refine lv_iload_n hx hb (by decide +kernel : decode code 251 = .ok (.iload_n 3, 1)) rfl (lv_at hl 3 rfl) ?_
    refine lv_iconst (v := 2) hx hb (by decide +kernel : decode code 252 = .ok (.iconst 2, 1)) (by decide) ?_
    refine lv_iadd hx hb (by decide +kernel : decode code 253 = .ok (.iadd, 1)) ?_
    refine zl_ld hF hL hS 2 (kk := 2) rfl (by omega) (by decide +kernel : decode code 254 = .ok (.iaload, 1)) ?_
    refine lv_if_eq (tgt := 262) hx hb (by decide +kernel : decode code 255 = .ok (.ifCond .eq 7, 3)) (by decide) (fun _ => ?_) (fun h => absurd hz h)
    refine lv_iconst (v := 0) hx hb (by decide +kernel : decode code 262 = .ok (.iconst 0, 1)) (by decide) ?_
    refine zl_call (lay := zx_LR) (E := E2) (As0 := [.int (xs (t + 1)), .int 0]) (rest := [.int r]) hF hE.2.1 h2 (Nat.le_refl 9) rfl rfl rfl lk_104 hE.2.2.2.1 ⟨Nat.le_of_ble_eq_true rfl, Nat.le_of_ble_eq_true rfl⟩ rfl rfl (Nat.le_of_ble_eq_true rfl) (by decide +kernel : decode code 263 = .ok (.invokevirtual 29, 3)) hP2 hS hl.1 (fun v S H1 locs hq hP2 hk hS => ?_)
    obtain ⟨rfl, rfl⟩ := hq
    have hP1 := zl_kept hP1 hE.2.2.2.2 hk
    generalize H1 = H at hP1 hP2 hS ⊢
    exact lv_icmp_eq (tgt := 536) hx hb (by decide +kernel : decode code 266 = .ok (.if_icmp .eq 270, 3)) (by decide) (fun _ => kk H locs ls hP1 hP2 hS hl) (fun h => absurd rfl h)
  · rw [if_neg hz] at h1 h2
    refine lv_aload_n hx hb (by decide +kernel : decode code 222 = .ok (.aload_n 1, 1)) rfl (lv_at hl 1 rfl) ?_
    refine lv_aload_n hx hb (by decide +kernel : decode code 223 = .ok (.aload_n 0, 1)) rfl (lv_at hl 0 rfl) ?_
    refine lv_iload_n hx hb (by decide +kernel : decode code 224 = .ok (.iload_n 3, 1)) rfl (lv_at hl 3 rfl) ?_
    refine lv_iconst (v := 1) hx hb (by decide +kernel : decode code 225 = .ok (.iconst 1, 1)) (by decide) ?_
    refine lv_iadd hx hb (by decide +kernel : decode code 226 = .ok (.iadd, 1)) ?_
    refine zl_ld hF hL hS 1 (kk := 1) rfl (by omega) (by decide +kernel : decode code 227 = .ok (.iaload, 1)) ?_
    refine lv_aload_n hx hb (by decide +kernel : decode code 228 = .ok (.aload_n 0, 1)) rfl (lv_at hl 0 rfl) ?_
    refine lv_iload_n hx hb (by decide +kernel : decode code 229 = .ok (.iload_n 3, 1)) rfl (lv_at hl 3 rfl) ?_
    refine lv_iconst (v := 2) hx hb (by decide +kernel : decode code 230 = .ok (.iconst 2, 1)) (by decide) ?_
    refine lv_iadd hx hb (by decide +kernel : decode code 231 = .ok (.iadd, 1)) ?_
    refine zl_ld hF hL hS 2 (kk := 2) rfl (by omega) (by decide +kernel : decode code 232 = .ok (.iaload, 1)) ?_
    refine lv_if_eq (tgt := 240) hx hb (by decide +kernel : decode code 233 = .ok (.ifCond .eq 7, 3)) (by decide) (fun h => absurd h hz) (fun _ => ?_)
    refine lv_iconst (v := 1) hx hb (by decide +kernel : decode code 236 = .ok (.iconst 1, 1)) (by decide) ?_
    refine lv_goto (tgt := 241) hx hb (by decide +kernel : decode code 237 = .ok (.goto 4, 3)) (by decide) ?_
    refine zl_call (lay := zx_LC) (E := E1) (As0 := [.int (xs (t + 1)), .int 1]) (rest := []) hF hE.1 h1 (Nat.le_refl 9) rfl rfl rfl lk_2 hE.2.2.1 ⟨Nat.le_of_ble_eq_true rfl, Nat.le_of_ble_eq_true rfl⟩ rfl rfl (Nat.le_of_ble_eq_true rfl) (by decide +kernel : decode code 241 = .ok (.invokevirtual 25, 3)) hP1 hS hl.1 (fun v S H1 locs hq hP1 hk hS => ?_)
    obtain ⟨rfl, rfl⟩ := hq
    have hP2 := zl_kept hP2 (fun q h1 h2 => hE.2.2.2.2 q h2 h1) hk
    generalize H1 = H at hP1 hP2 hS ⊢
    refine lv_aload_n hx hb (by decide +kernel : decode code 244 = .ok (.aload_n 2, 1)) rfl (lv_at hl 2 rfl) ?_
    refine lv_aload_n hx hb (by decide +kernel : decode code 245 = .ok (.aload_n 0, 1)) rfl (lv_at hl 0 rfl) ?_
    refine lv_iload_n hx hb (by decide +kernel : decode code 246 = .ok (.iload_n 3, 1)) rfl (lv_at hl 3 rfl) ?_
    refine lv_iconst (v := 1) hx hb (by decide +kernel : decode code 247 = .ok (.iconst 1, 1)) (by decide) ?_
    refine lv_iadd hx hb (by decide +kernel : decode code 248 = .ok (.iadd, 1)) ?_
    refine zl_ld hF hL hS 1 (kk := 1) rfl (by omega) (by decide +kernel : decode code 249 = .ok (.iaload, 1)) ?_
    refine lv_aload_n hx hb (by decide +kernel : decode code 250 = .ok (.aload_n 0, 1)) rfl (lv_at hl 0 rfl) ?_
    refine lv_iload_n hx hb (by decide +kernel : decode code 251 = .ok (.iload_n 3, 1)) rfl (lv_at hl 3 rfl) ?_
    refine lv_iconst (v := 2) hx hb (by decide +kernel : decode code 252 = .ok (.iconst 2, 1)) (by decide) ?_
    refine lv_iadd hx hb (by decide +kernel : decode code 253 = .ok (.iadd, 1)) ?_
    refine zl_ld hF hL hS 2 (kk := 2) rfl (by omega) (by decide +kernel : decode code 254 = .ok (.iaload, 1)) ?_
    refine lv_if_eq (tgt := 262) hx hb (by decide +kernel : decode code 255 = .ok (.ifCond .eq 7, 3)) (by decide) (fun h => absurd h hz) (fun _ => ?_)
    refine lv_iconst (v := 1) hx hb (by decide +kernel : decode code 258 = .ok (.iconst 1, 1)) (by decide) ?_
    refine lv_goto (tgt := 263) hx hb (by decide +kernel : decode code 259 = .ok (.goto 4, 3)) (by decide) ?_
    refine zl_call (lay := zx_LR) (E := E2) (As0 := [.int (xs (t + 1)), .int 1]) (rest := [.int r]) hF hE.2.1 h2 (Nat.le_refl 9) rfl rfl rfl lk_104 hE.2.2.2.1 ⟨Nat.le_of_ble_eq_true rfl, Nat.le_of_ble_eq_true rfl⟩ rfl rfl (Nat.le_of_ble_eq_true rfl) (by decide +kernel : decode code 263 = .ok (.invokevirtual 29, 3)) hP2 hS hl.1 (fun v S H1 locs hq hP2 hk hS => ?_)
    obtain ⟨rfl, rfl⟩ := hq
    have hP1 := zl_kept hP1 hE.2.2.2.2 hk
    generalize H1 = H at hP1 hP2 hS ⊢
    exact lv_icmp_eq (tgt := 536) hx hb (by decide +kernel : decode code 266 = .ok (.if_icmp .eq 270, 3)) (by decide) (fun _ => kk H locs ls hP1 hP2 hS hl) (fun h => absurd rfl h)
theorem wl_1_152 : (Jvm.Cond.methodLink "IntervalPackerLaw" (30 : Nat) ({ cls := "IntervalPacker", name := "change", desc := "(II)I" } : Jvm.MethodName)) ∈ zx_WS := zx_r1 (List.mem_of_getElem? (i := 152) rfl) rfl
theorem wl_1_153 : (Jvm.Cond.instanceMethod ({ cls := "IntervalPacker", name := "change", desc := "(II)I" } : Jvm.MethodName)) ∈ zx_WS := zx_r1 (List.mem_of_getElem? (i := 153) rfl) rfl
theorem wl_1_154 : (Jvm.Cond.selects "IntervalPacker" ({ cls := "IntervalPacker", name := "change", desc := "(II)I" } : Jvm.MethodName) ({ cls := "IntervalPacker", name := "change", desc := "(II)I" } : Jvm.MethodName)) ∈ zx_WS := zx_r1 (List.mem_of_getElem? (i := 154) rfl) rfl
theorem wl_1_155 : (Jvm.Cond.code ({ cls := "IntervalPacker", name := "change", desc := "(II)I" } : Jvm.MethodName) prog_1_method_5_code (4 : Nat) (Option.some Jvm.ClassFile.FieldType.int)) ∈ zx_WS := zx_r1 (List.mem_of_getElem? (i := 155) rfl) rfl
theorem lk_3 : zl_lk 30 2 "IntervalPacker" (⟨"IntervalPacker", "change", "(II)I"⟩, 0, prog_1_method_5_code, 4, (some Jvm.ClassFile.FieldType.int)) := ⟨rfl, ⟨by decide, by decide⟩, (by decide +kernel), wl_1_152, wl_1_153, wl_1_154, wl_0_1, wl_1_155, by decide⟩
theorem wl_4_38 : (Jvm.Cond.methodLink "IntervalPackerLaw" (33 : Nat) ({ cls := "IntervalPackerModel", name := "change", desc := "(II)I" } : Jvm.MethodName)) ∈ zx_WS := zx_r4 (List.mem_of_getElem? (i := 38) rfl) rfl
theorem wl_4_39 : (Jvm.Cond.instanceMethod ({ cls := "IntervalPackerModel", name := "change", desc := "(II)I" } : Jvm.MethodName)) ∈ zx_WS := zx_r4 (List.mem_of_getElem? (i := 39) rfl) rfl
theorem wl_4_40 : (Jvm.Cond.selects "IntervalPackerModel" ({ cls := "IntervalPackerModel", name := "change", desc := "(II)I" } : Jvm.MethodName) ({ cls := "IntervalPackerModel", name := "change", desc := "(II)I" } : Jvm.MethodName)) ∈ zx_WS := zx_r4 (List.mem_of_getElem? (i := 40) rfl) rfl
theorem wl_4_41 : (Jvm.Cond.code ({ cls := "IntervalPackerModel", name := "change", desc := "(II)I" } : Jvm.MethodName) prog_11_method_5_code (4 : Nat) (Option.some Jvm.ClassFile.FieldType.int)) ∈ zx_WS := zx_r4 (List.mem_of_getElem? (i := 41) rfl) rfl
theorem lk_105 : zl_lk 33 2 "IntervalPackerModel" (⟨"IntervalPackerModel", "change", "(II)I"⟩, 8, prog_11_method_5_code, 4, (some Jvm.ClassFile.FieldType.int)) := ⟨rfl, ⟨by decide, by decide⟩, (by decide +kernel), wl_4_38, wl_4_39, wl_4_40, wl_0_10, wl_4_41, by decide⟩
set_option maxHeartbeats 4000000 in
set_option maxRecDepth 100000 in
theorem zl_change (hF : lw_At p s m meth c b L xs) (hE : zl_E s E1 E2) (hL : L ≤ 2560) {t : Nat} (ht : t + 5 ≤ L) {r : Int32} (h1 : zx_MC l E1 3 9 [.ref 0, .int (xs (t + 1)), .int (xs (t + 2))] S1 (fun v S => v = some (.int r) ∧ S = S1')) (h2 : zx_MR l E2 105 9 [.ref 0, .int (xs (t + 1)), .int (xs (t + 2))] S2 (fun v S => v = some (.int r) ∧ S = S2')) (kk : zl_Z p l e s m below meth c b E1 E2 S1' S2' 536 (nI t)) : zl_Z p l e s m below meth c b E1 E2 S1 S2 271 (nI t) := by
  obtain ⟨hx, hb, hret, hml, hown, hts0, hX, hbl, hlk0, hgv⟩ := id hF
  have hts : ∀ w ∈ zx_WS, w.before #[Value.ref b] s = true := fun w h => hts0 w (List.mem_filter.mp h).1
  intro H locs ls hP1 hP2 hS hl
  refine lv_aload_n hx hb (by decide +kernel : decode code 271 = .ok (.aload_n 1, 1)) rfl (lv_at hl 1 rfl) ?_
  refine lv_aload_n hx hb (by decide +kernel : decode code 272 = .ok (.aload_n 0, 1)) rfl (lv_at hl 0 rfl) ?_
  refine lv_iload_n hx hb (by decide +kernel : decode code 273 = .ok (.iload_n 3, 1)) rfl (lv_at hl 3 rfl) ?_
  refine lv_iconst (v := 1) hx hb (by decide +kernel : decode code 274 = .ok (.iconst 1, 1)) (by decide) ?_
  refine lv_iadd hx hb (by decide +kernel : decode code 275 = .ok (.iadd, 1)) ?_
  refine zl_ld hF hL hS 1 (kk := 1) rfl (by omega) (by decide +kernel : decode code 276 = .ok (.iaload, 1)) ?_
  refine lv_aload_n hx hb (by decide +kernel : decode code 277 = .ok (.aload_n 0, 1)) rfl (lv_at hl 0 rfl) ?_
  refine lv_iload_n hx hb (by decide +kernel : decode code 278 = .ok (.iload_n 3, 1)) rfl (lv_at hl 3 rfl) ?_
  refine lv_iconst (v := 2) hx hb (by decide +kernel : decode code 279 = .ok (.iconst 2, 1)) (by decide) ?_
  refine lv_iadd hx hb (by decide +kernel : decode code 280 = .ok (.iadd, 1)) ?_
  refine zl_ld hF hL hS 2 (kk := 2) rfl (by omega) (by decide +kernel : decode code 281 = .ok (.iaload, 1)) ?_
  refine zl_call (lay := zx_LC) (E := E1) (As0 := [.int (xs (t + 1)), .int (xs (t + 2))]) (rest := []) hF hE.1 h1 (Nat.le_refl 9) rfl rfl rfl lk_3 hE.2.2.1 ⟨Nat.le_of_ble_eq_true rfl, Nat.le_of_ble_eq_true rfl⟩ rfl rfl (Nat.le_of_ble_eq_true rfl) (by decide +kernel : decode code 282 = .ok (.invokevirtual 30, 3)) hP1 hS hl.1 (fun v S H1 locs hq hP1 hk hS => ?_)
  obtain ⟨rfl, rfl⟩ := hq
  have hP2 := zl_kept hP2 (fun q h1 h2 => hE.2.2.2.2 q h2 h1) hk
  generalize H1 = H at hP1 hP2 hS ⊢
  refine lv_aload_n hx hb (by decide +kernel : decode code 285 = .ok (.aload_n 2, 1)) rfl (lv_at hl 2 rfl) ?_
  refine lv_aload_n hx hb (by decide +kernel : decode code 286 = .ok (.aload_n 0, 1)) rfl (lv_at hl 0 rfl) ?_
  refine lv_iload_n hx hb (by decide +kernel : decode code 287 = .ok (.iload_n 3, 1)) rfl (lv_at hl 3 rfl) ?_
  refine lv_iconst (v := 1) hx hb (by decide +kernel : decode code 288 = .ok (.iconst 1, 1)) (by decide) ?_
  refine lv_iadd hx hb (by decide +kernel : decode code 289 = .ok (.iadd, 1)) ?_
  refine zl_ld hF hL hS 1 (kk := 1) rfl (by omega) (by decide +kernel : decode code 290 = .ok (.iaload, 1)) ?_
  refine lv_aload_n hx hb (by decide +kernel : decode code 291 = .ok (.aload_n 0, 1)) rfl (lv_at hl 0 rfl) ?_
  refine lv_iload_n hx hb (by decide +kernel : decode code 292 = .ok (.iload_n 3, 1)) rfl (lv_at hl 3 rfl) ?_
  refine lv_iconst (v := 2) hx hb (by decide +kernel : decode code 293 = .ok (.iconst 2, 1)) (by decide) ?_
  refine lv_iadd hx hb (by decide +kernel : decode code 294 = .ok (.iadd, 1)) ?_
  refine zl_ld hF hL hS 2 (kk := 2) rfl (by omega) (by decide +kernel : decode code 295 = .ok (.iaload, 1)) ?_
  refine zl_call (lay := zx_LR) (E := E2) (As0 := [.int (xs (t + 1)), .int (xs (t + 2))]) (rest := [.int r]) hF hE.2.1 h2 (Nat.le_refl 9) rfl rfl rfl lk_105 hE.2.2.2.1 ⟨Nat.le_of_ble_eq_true rfl, Nat.le_of_ble_eq_true rfl⟩ rfl rfl (Nat.le_of_ble_eq_true rfl) (by decide +kernel : decode code 296 = .ok (.invokevirtual 33, 3)) hP2 hS hl.1 (fun v S H1 locs hq hP2 hk hS => ?_)
  obtain ⟨rfl, rfl⟩ := hq
  have hP1 := zl_kept hP1 hE.2.2.2.2 hk
  generalize H1 = H at hP1 hP2 hS ⊢
  exact lv_icmp_eq (tgt := 536) hx hb (by decide +kernel : decode code 299 = .ok (.if_icmp .eq 237, 3)) (by decide) (fun _ => kk H locs ls hP1 hP2 hS hl) (fun h => absurd rfl h)
theorem wl_1_160 : (Jvm.Cond.methodLink "IntervalPackerLaw" (34 : Nat) ({ cls := "IntervalPacker", name := "at", desc := "(IZ)I" } : Jvm.MethodName)) ∈ zx_WS := zx_r1 (List.mem_of_getElem? (i := 160) rfl) rfl
theorem wl_1_161 : (Jvm.Cond.instanceMethod ({ cls := "IntervalPacker", name := "at", desc := "(IZ)I" } : Jvm.MethodName)) ∈ zx_WS := zx_r1 (List.mem_of_getElem? (i := 161) rfl) rfl
theorem wl_1_162 : (Jvm.Cond.selects "IntervalPacker" ({ cls := "IntervalPacker", name := "at", desc := "(IZ)I" } : Jvm.MethodName) ({ cls := "IntervalPacker", name := "at", desc := "(IZ)I" } : Jvm.MethodName)) ∈ zx_WS := zx_r1 (List.mem_of_getElem? (i := 162) rfl) rfl
theorem wl_1_163 : (Jvm.Cond.code ({ cls := "IntervalPacker", name := "at", desc := "(IZ)I" } : Jvm.MethodName) prog_1_method_6_code (3 : Nat) (Option.some Jvm.ClassFile.FieldType.int)) ∈ zx_WS := zx_r1 (List.mem_of_getElem? (i := 163) rfl) rfl
theorem lk_4 : zl_lk 34 2 "IntervalPacker" (⟨"IntervalPacker", "at", "(IZ)I"⟩, 0, prog_1_method_6_code, 3, (some Jvm.ClassFile.FieldType.int)) := ⟨rfl, ⟨by decide, by decide⟩, (by decide +kernel), wl_1_160, wl_1_161, wl_1_162, wl_0_1, wl_1_163, by decide⟩
theorem wl_4_42 : (Jvm.Cond.methodLink "IntervalPackerLaw" (37 : Nat) ({ cls := "IntervalPackerModel", name := "at", desc := "(IZ)I" } : Jvm.MethodName)) ∈ zx_WS := zx_r4 (List.mem_of_getElem? (i := 42) rfl) rfl
theorem wl_4_43 : (Jvm.Cond.instanceMethod ({ cls := "IntervalPackerModel", name := "at", desc := "(IZ)I" } : Jvm.MethodName)) ∈ zx_WS := zx_r4 (List.mem_of_getElem? (i := 43) rfl) rfl
theorem wl_4_44 : (Jvm.Cond.selects "IntervalPackerModel" ({ cls := "IntervalPackerModel", name := "at", desc := "(IZ)I" } : Jvm.MethodName) ({ cls := "IntervalPackerModel", name := "at", desc := "(IZ)I" } : Jvm.MethodName)) ∈ zx_WS := zx_r4 (List.mem_of_getElem? (i := 44) rfl) rfl
theorem wl_4_45 : (Jvm.Cond.code ({ cls := "IntervalPackerModel", name := "at", desc := "(IZ)I" } : Jvm.MethodName) prog_11_method_6_code (3 : Nat) (Option.some Jvm.ClassFile.FieldType.int)) ∈ zx_WS := zx_r4 (List.mem_of_getElem? (i := 45) rfl) rfl
theorem lk_106 : zl_lk 37 2 "IntervalPackerModel" (⟨"IntervalPackerModel", "at", "(IZ)I"⟩, 8, prog_11_method_6_code, 3, (some Jvm.ClassFile.FieldType.int)) := ⟨rfl, ⟨by decide, by decide⟩, (by decide +kernel), wl_4_42, wl_4_43, wl_4_44, wl_0_10, wl_4_45, by decide⟩
set_option maxHeartbeats 4000000 in
set_option maxRecDepth 100000 in
theorem zl_at (hF : lw_At p s m meth c b L xs) (hE : zl_E s E1 E2) (hL : L ≤ 2560) {t : Nat} (ht : t + 5 ≤ L) {r : Int32} (h1 : zx_MC l E1 4 9 [.ref 0, .int (xs (t + 1)), .int (if (xs (t + 2)) = 0 then 0 else 1)] S1 (fun v S => v = some (.int r) ∧ S = S1')) (h2 : zx_MR l E2 106 9 [.ref 0, .int (xs (t + 1)), .int (if (xs (t + 2)) = 0 then 0 else 1)] S2 (fun v S => v = some (.int r) ∧ S = S2')) (kk : zl_Z p l e s m below meth c b E1 E2 S1' S2' 536 (nI t)) : zl_Z p l e s m below meth c b E1 E2 S1 S2 304 (nI t) := by
  obtain ⟨hx, hb, hret, hml, hown, hts0, hX, hbl, hlk0, hgv⟩ := id hF
  have hts : ∀ w ∈ zx_WS, w.before #[Value.ref b] s = true := fun w h => hts0 w (List.mem_filter.mp h).1
  intro H locs ls hP1 hP2 hS hl
  by_cases hz : (xs (t + 2)) = 0
  · rw [if_pos hz] at h1 h2
    refine lv_aload_n hx hb (by decide +kernel : decode code 304 = .ok (.aload_n 1, 1)) rfl (lv_at hl 1 rfl) ?_
    refine lv_aload_n hx hb (by decide +kernel : decode code 305 = .ok (.aload_n 0, 1)) rfl (lv_at hl 0 rfl) ?_
    refine lv_iload_n hx hb (by decide +kernel : decode code 306 = .ok (.iload_n 3, 1)) rfl (lv_at hl 3 rfl) ?_
    refine lv_iconst (v := 1) hx hb (by decide +kernel : decode code 307 = .ok (.iconst 1, 1)) (by decide) ?_
    refine lv_iadd hx hb (by decide +kernel : decode code 308 = .ok (.iadd, 1)) ?_
    refine zl_ld hF hL hS 1 (kk := 1) rfl (by omega) (by decide +kernel : decode code 309 = .ok (.iaload, 1)) ?_
    refine lv_aload_n hx hb (by decide +kernel : decode code 310 = .ok (.aload_n 0, 1)) rfl (lv_at hl 0 rfl) ?_
    refine lv_iload_n hx hb (by decide +kernel : decode code 311 = .ok (.iload_n 3, 1)) rfl (lv_at hl 3 rfl) ?_
    refine lv_iconst (v := 2) hx hb (by decide +kernel : decode code 312 = .ok (.iconst 2, 1)) (by decide) ?_
    refine lv_iadd hx hb (by decide +kernel : decode code 313 = .ok (.iadd, 1)) ?_
    refine zl_ld hF hL hS 2 (kk := 2) rfl (by omega) (by decide +kernel : decode code 314 = .ok (.iaload, 1)) ?_
    refine lv_if_eq (tgt := 322) hx hb (by decide +kernel : decode code 315 = .ok (.ifCond .eq 7, 3)) (by decide) (fun _ => ?_) (fun h => absurd hz h)
    refine lv_iconst (v := 0) hx hb (by decide +kernel : decode code 322 = .ok (.iconst 0, 1)) (by decide) ?_
    refine zl_call (lay := zx_LC) (E := E1) (As0 := [.int (xs (t + 1)), .int 0]) (rest := []) hF hE.1 h1 (Nat.le_refl 9) rfl rfl rfl lk_4 hE.2.2.1 ⟨Nat.le_of_ble_eq_true rfl, Nat.le_of_ble_eq_true rfl⟩ rfl rfl (Nat.le_of_ble_eq_true rfl) (by decide +kernel : decode code 323 = .ok (.invokevirtual 34, 3)) hP1 hS hl.1 (fun v S H1 locs hq hP1 hk hS => ?_)
    obtain ⟨rfl, rfl⟩ := hq
    have hP2 := zl_kept hP2 (fun q h1 h2 => hE.2.2.2.2 q h2 h1) hk
    generalize H1 = H at hP1 hP2 hS ⊢
    refine lv_aload_n hx hb (by decide +kernel : decode code 326 = .ok (.aload_n 2, 1)) rfl (lv_at hl 2 rfl) ?_
    refine lv_aload_n hx hb (by decide +kernel : decode code 327 = .ok (.aload_n 0, 1)) rfl (lv_at hl 0 rfl) ?_
    refine lv_iload_n hx hb (by decide +kernel : decode code 328 = .ok (.iload_n 3, 1)) rfl (lv_at hl 3 rfl) ?_
    refine lv_iconst (v := 1) hx hb (by decide +kernel : decode code 329 = .ok (.iconst 1, 1)) (by decide) ?_
    refine lv_iadd hx hb (by decide +kernel : decode code 330 = .ok (.iadd, 1)) ?_
    refine zl_ld hF hL hS 1 (kk := 1) rfl (by omega) (by decide +kernel : decode code 331 = .ok (.iaload, 1)) ?_
    refine lv_aload_n hx hb (by decide +kernel : decode code 332 = .ok (.aload_n 0, 1)) rfl (lv_at hl 0 rfl) ?_
    refine lv_iload_n hx hb (by decide +kernel : decode code 333 = .ok (.iload_n 3, 1)) rfl (lv_at hl 3 rfl) ?_
    refine lv_iconst (v := 2) hx hb (by decide +kernel : decode code 334 = .ok (.iconst 2, 1)) (by decide) ?_
    refine lv_iadd hx hb (by decide +kernel : decode code 335 = .ok (.iadd, 1)) ?_
    refine zl_ld hF hL hS 2 (kk := 2) rfl (by omega) (by decide +kernel : decode code 336 = .ok (.iaload, 1)) ?_
    refine lv_if_eq (tgt := 344) hx hb (by decide +kernel : decode code 337 = .ok (.ifCond .eq 7, 3)) (by decide) (fun _ => ?_) (fun h => absurd hz h)
    refine lv_iconst (v := 0) hx hb (by decide +kernel : decode code 344 = .ok (.iconst 0, 1)) (by decide) ?_
    refine zl_call (lay := zx_LR) (E := E2) (As0 := [.int (xs (t + 1)), .int 0]) (rest := [.int r]) hF hE.2.1 h2 (Nat.le_refl 9) rfl rfl rfl lk_106 hE.2.2.2.1 ⟨Nat.le_of_ble_eq_true rfl, Nat.le_of_ble_eq_true rfl⟩ rfl rfl (Nat.le_of_ble_eq_true rfl) (by decide +kernel : decode code 345 = .ok (.invokevirtual 37, 3)) hP2 hS hl.1 (fun v S H1 locs hq hP2 hk hS => ?_)
    obtain ⟨rfl, rfl⟩ := hq
    have hP1 := zl_kept hP1 hE.2.2.2.2 hk
    generalize H1 = H at hP1 hP2 hS ⊢
    exact lv_icmp_eq (tgt := 536) hx hb (by decide +kernel : decode code 348 = .ok (.if_icmp .eq 188, 3)) (by decide) (fun _ => kk H locs ls hP1 hP2 hS hl) (fun h => absurd rfl h)
  · rw [if_neg hz] at h1 h2
    refine lv_aload_n hx hb (by decide +kernel : decode code 304 = .ok (.aload_n 1, 1)) rfl (lv_at hl 1 rfl) ?_
    refine lv_aload_n hx hb (by decide +kernel : decode code 305 = .ok (.aload_n 0, 1)) rfl (lv_at hl 0 rfl) ?_
    refine lv_iload_n hx hb (by decide +kernel : decode code 306 = .ok (.iload_n 3, 1)) rfl (lv_at hl 3 rfl) ?_
    refine lv_iconst (v := 1) hx hb (by decide +kernel : decode code 307 = .ok (.iconst 1, 1)) (by decide) ?_
    refine lv_iadd hx hb (by decide +kernel : decode code 308 = .ok (.iadd, 1)) ?_
    refine zl_ld hF hL hS 1 (kk := 1) rfl (by omega) (by decide +kernel : decode code 309 = .ok (.iaload, 1)) ?_
    refine lv_aload_n hx hb (by decide +kernel : decode code 310 = .ok (.aload_n 0, 1)) rfl (lv_at hl 0 rfl) ?_
    refine lv_iload_n hx hb (by decide +kernel : decode code 311 = .ok (.iload_n 3, 1)) rfl (lv_at hl 3 rfl) ?_
    refine lv_iconst (v := 2) hx hb (by decide +kernel : decode code 312 = .ok (.iconst 2, 1)) (by decide) ?_
    refine lv_iadd hx hb (by decide +kernel : decode code 313 = .ok (.iadd, 1)) ?_
    refine zl_ld hF hL hS 2 (kk := 2) rfl (by omega) (by decide +kernel : decode code 314 = .ok (.iaload, 1)) ?_
    refine lv_if_eq (tgt := 322) hx hb (by decide +kernel : decode code 315 = .ok (.ifCond .eq 7, 3)) (by decide) (fun h => absurd h hz) (fun _ => ?_)
    refine lv_iconst (v := 1) hx hb (by decide +kernel : decode code 318 = .ok (.iconst 1, 1)) (by decide) ?_
    refine lv_goto (tgt := 323) hx hb (by decide +kernel : decode code 319 = .ok (.goto 4, 3)) (by decide) ?_
    refine zl_call (lay := zx_LC) (E := E1) (As0 := [.int (xs (t + 1)), .int 1]) (rest := []) hF hE.1 h1 (Nat.le_refl 9) rfl rfl rfl lk_4 hE.2.2.1 ⟨Nat.le_of_ble_eq_true rfl, Nat.le_of_ble_eq_true rfl⟩ rfl rfl (Nat.le_of_ble_eq_true rfl) (by decide +kernel : decode code 323 = .ok (.invokevirtual 34, 3)) hP1 hS hl.1 (fun v S H1 locs hq hP1 hk hS => ?_)
    obtain ⟨rfl, rfl⟩ := hq
    have hP2 := zl_kept hP2 (fun q h1 h2 => hE.2.2.2.2 q h2 h1) hk
    generalize H1 = H at hP1 hP2 hS ⊢
    refine lv_aload_n hx hb (by decide +kernel : decode code 326 = .ok (.aload_n 2, 1)) rfl (lv_at hl 2 rfl) ?_
    refine lv_aload_n hx hb (by decide +kernel : decode code 327 = .ok (.aload_n 0, 1)) rfl (lv_at hl 0 rfl) ?_
    refine lv_iload_n hx hb (by decide +kernel : decode code 328 = .ok (.iload_n 3, 1)) rfl (lv_at hl 3 rfl) ?_
    refine lv_iconst (v := 1) hx hb (by decide +kernel : decode code 329 = .ok (.iconst 1, 1)) (by decide) ?_
    refine lv_iadd hx hb (by decide +kernel : decode code 330 = .ok (.iadd, 1)) ?_
    refine zl_ld hF hL hS 1 (kk := 1) rfl (by omega) (by decide +kernel : decode code 331 = .ok (.iaload, 1)) ?_
    refine lv_aload_n hx hb (by decide +kernel : decode code 332 = .ok (.aload_n 0, 1)) rfl (lv_at hl 0 rfl) ?_
    refine lv_iload_n hx hb (by decide +kernel : decode code 333 = .ok (.iload_n 3, 1)) rfl (lv_at hl 3 rfl) ?_
    refine lv_iconst (v := 2) hx hb (by decide +kernel : decode code 334 = .ok (.iconst 2, 1)) (by decide) ?_
    refine lv_iadd hx hb (by decide +kernel : decode code 335 = .ok (.iadd, 1)) ?_
    refine zl_ld hF hL hS 2 (kk := 2) rfl (by omega) (by decide +kernel : decode code 336 = .ok (.iaload, 1)) ?_
    refine lv_if_eq (tgt := 344) hx hb (by decide +kernel : decode code 337 = .ok (.ifCond .eq 7, 3)) (by decide) (fun h => absurd h hz) (fun _ => ?_)
    refine lv_iconst (v := 1) hx hb (by decide +kernel : decode code 340 = .ok (.iconst 1, 1)) (by decide) ?_
    refine lv_goto (tgt := 345) hx hb (by decide +kernel : decode code 341 = .ok (.goto 4, 3)) (by decide) ?_
    refine zl_call (lay := zx_LR) (E := E2) (As0 := [.int (xs (t + 1)), .int 1]) (rest := [.int r]) hF hE.2.1 h2 (Nat.le_refl 9) rfl rfl rfl lk_106 hE.2.2.2.1 ⟨Nat.le_of_ble_eq_true rfl, Nat.le_of_ble_eq_true rfl⟩ rfl rfl (Nat.le_of_ble_eq_true rfl) (by decide +kernel : decode code 345 = .ok (.invokevirtual 37, 3)) hP2 hS hl.1 (fun v S H1 locs hq hP2 hk hS => ?_)
    obtain ⟨rfl, rfl⟩ := hq
    have hP1 := zl_kept hP1 hE.2.2.2.2 hk
    generalize H1 = H at hP1 hP2 hS ⊢
    exact lv_icmp_eq (tgt := 536) hx hb (by decide +kernel : decode code 348 = .ok (.if_icmp .eq 188, 3)) (by decide) (fun _ => kk H locs ls hP1 hP2 hS hl) (fun h => absurd rfl h)
theorem wl_1_164 : (Jvm.Cond.methodLink "IntervalPackerLaw" (38 : Nat) ({ cls := "IntervalPacker", name := "pack", desc := "(III)I" } : Jvm.MethodName)) ∈ zx_WS := zx_r1 (List.mem_of_getElem? (i := 164) rfl) rfl
theorem wl_1_165 : (Jvm.Cond.instanceMethod ({ cls := "IntervalPacker", name := "pack", desc := "(III)I" } : Jvm.MethodName)) ∈ zx_WS := zx_r1 (List.mem_of_getElem? (i := 165) rfl) rfl
theorem wl_1_166 : (Jvm.Cond.selects "IntervalPacker" ({ cls := "IntervalPacker", name := "pack", desc := "(III)I" } : Jvm.MethodName) ({ cls := "IntervalPacker", name := "pack", desc := "(III)I" } : Jvm.MethodName)) ∈ zx_WS := zx_r1 (List.mem_of_getElem? (i := 166) rfl) rfl
theorem wl_1_167 : (Jvm.Cond.code ({ cls := "IntervalPacker", name := "pack", desc := "(III)I" } : Jvm.MethodName) prog_1_method_7_code (5 : Nat) (Option.some Jvm.ClassFile.FieldType.int)) ∈ zx_WS := zx_r1 (List.mem_of_getElem? (i := 167) rfl) rfl
theorem lk_5 : zl_lk 38 3 "IntervalPacker" (⟨"IntervalPacker", "pack", "(III)I"⟩, 0, prog_1_method_7_code, 5, (some Jvm.ClassFile.FieldType.int)) := ⟨rfl, ⟨by decide, by decide⟩, (by decide +kernel), wl_1_164, wl_1_165, wl_1_166, wl_0_1, wl_1_167, by decide⟩
theorem wl_5_13 : (Jvm.Cond.methodLink "IntervalPackerLaw" (42 : Nat) ({ cls := "IntervalPackerModel", name := "pack", desc := "(III)I" } : Jvm.MethodName)) ∈ zx_WS := zx_r5 (List.mem_of_getElem? (i := 13) rfl) rfl
theorem wl_5_14 : (Jvm.Cond.instanceMethod ({ cls := "IntervalPackerModel", name := "pack", desc := "(III)I" } : Jvm.MethodName)) ∈ zx_WS := zx_r5 (List.mem_of_getElem? (i := 14) rfl) rfl
theorem wl_5_15 : (Jvm.Cond.selects "IntervalPackerModel" ({ cls := "IntervalPackerModel", name := "pack", desc := "(III)I" } : Jvm.MethodName) ({ cls := "IntervalPackerModel", name := "pack", desc := "(III)I" } : Jvm.MethodName)) ∈ zx_WS := zx_r5 (List.mem_of_getElem? (i := 15) rfl) rfl
theorem wl_5_16 : (Jvm.Cond.code ({ cls := "IntervalPackerModel", name := "pack", desc := "(III)I" } : Jvm.MethodName) prog_11_method_79_code (10 : Nat) (Option.some Jvm.ClassFile.FieldType.int)) ∈ zx_WS := zx_r5 (List.mem_of_getElem? (i := 16) rfl) rfl
theorem lk_179 : zl_lk 42 3 "IntervalPackerModel" (⟨"IntervalPackerModel", "pack", "(III)I"⟩, 8, prog_11_method_79_code, 10, (some Jvm.ClassFile.FieldType.int)) := ⟨rfl, ⟨by decide, by decide⟩, (by decide +kernel), wl_5_13, wl_5_14, wl_5_15, wl_0_10, wl_5_16, by decide⟩
set_option maxHeartbeats 4000000 in
set_option maxRecDepth 100000 in
theorem zl_pack (hF : lw_At p s m meth c b L xs) (hE : zl_E s E1 E2) (hL : L ≤ 2560) {t : Nat} (ht : t + 5 ≤ L) {r : Int32} (h1 : zx_MC l E1 5 9 [.ref 0, .int (xs (t + 1)), .int (xs (t + 2)), .int (xs (t + 3))] S1 (fun v S => v = some (.int r) ∧ S = S1')) (h2 : zx_MR l E2 179 9 [.ref 0, .int (xs (t + 1)), .int (xs (t + 2)), .int (xs (t + 3))] S2 (fun v S => v = some (.int r) ∧ S = S2')) (kk : zl_Z p l e s m below meth c b E1 E2 S1' S2' 536 (nI t)) : zl_Z p l e s m below meth c b E1 E2 S1 S2 353 (nI t) := by
  obtain ⟨hx, hb, hret, hml, hown, hts0, hX, hbl, hlk0, hgv⟩ := id hF
  have hts : ∀ w ∈ zx_WS, w.before #[Value.ref b] s = true := fun w h => hts0 w (List.mem_filter.mp h).1
  intro H locs ls hP1 hP2 hS hl
  refine lv_aload_n hx hb (by decide +kernel : decode code 353 = .ok (.aload_n 1, 1)) rfl (lv_at hl 1 rfl) ?_
  refine lv_aload_n hx hb (by decide +kernel : decode code 354 = .ok (.aload_n 0, 1)) rfl (lv_at hl 0 rfl) ?_
  refine lv_iload_n hx hb (by decide +kernel : decode code 355 = .ok (.iload_n 3, 1)) rfl (lv_at hl 3 rfl) ?_
  refine lv_iconst (v := 1) hx hb (by decide +kernel : decode code 356 = .ok (.iconst 1, 1)) (by decide) ?_
  refine lv_iadd hx hb (by decide +kernel : decode code 357 = .ok (.iadd, 1)) ?_
  refine zl_ld hF hL hS 1 (kk := 1) rfl (by omega) (by decide +kernel : decode code 358 = .ok (.iaload, 1)) ?_
  refine lv_aload_n hx hb (by decide +kernel : decode code 359 = .ok (.aload_n 0, 1)) rfl (lv_at hl 0 rfl) ?_
  refine lv_iload_n hx hb (by decide +kernel : decode code 360 = .ok (.iload_n 3, 1)) rfl (lv_at hl 3 rfl) ?_
  refine lv_iconst (v := 2) hx hb (by decide +kernel : decode code 361 = .ok (.iconst 2, 1)) (by decide) ?_
  refine lv_iadd hx hb (by decide +kernel : decode code 362 = .ok (.iadd, 1)) ?_
  refine zl_ld hF hL hS 2 (kk := 2) rfl (by omega) (by decide +kernel : decode code 363 = .ok (.iaload, 1)) ?_
  refine lv_aload_n hx hb (by decide +kernel : decode code 364 = .ok (.aload_n 0, 1)) rfl (lv_at hl 0 rfl) ?_
  refine lv_iload_n hx hb (by decide +kernel : decode code 365 = .ok (.iload_n 3, 1)) rfl (lv_at hl 3 rfl) ?_
  refine lv_iconst (v := 3) hx hb (by decide +kernel : decode code 366 = .ok (.iconst 3, 1)) (by decide) ?_
  refine lv_iadd hx hb (by decide +kernel : decode code 367 = .ok (.iadd, 1)) ?_
  refine zl_ld hF hL hS 3 (kk := 3) rfl (by omega) (by decide +kernel : decode code 368 = .ok (.iaload, 1)) ?_
  refine zl_call (lay := zx_LC) (E := E1) (As0 := [.int (xs (t + 1)), .int (xs (t + 2)), .int (xs (t + 3))]) (rest := []) hF hE.1 h1 (Nat.le_refl 9) rfl rfl rfl lk_5 hE.2.2.1 ⟨Nat.le_of_ble_eq_true rfl, Nat.le_of_ble_eq_true rfl⟩ rfl rfl (Nat.le_of_ble_eq_true rfl) (by decide +kernel : decode code 369 = .ok (.invokevirtual 38, 3)) hP1 hS hl.1 (fun v S H1 locs hq hP1 hk hS => ?_)
  obtain ⟨rfl, rfl⟩ := hq
  have hP2 := zl_kept hP2 (fun q h1 h2 => hE.2.2.2.2 q h2 h1) hk
  generalize H1 = H at hP1 hP2 hS ⊢
  refine lv_aload_n hx hb (by decide +kernel : decode code 372 = .ok (.aload_n 2, 1)) rfl (lv_at hl 2 rfl) ?_
  refine lv_aload_n hx hb (by decide +kernel : decode code 373 = .ok (.aload_n 0, 1)) rfl (lv_at hl 0 rfl) ?_
  refine lv_iload_n hx hb (by decide +kernel : decode code 374 = .ok (.iload_n 3, 1)) rfl (lv_at hl 3 rfl) ?_
  refine lv_iconst (v := 1) hx hb (by decide +kernel : decode code 375 = .ok (.iconst 1, 1)) (by decide) ?_
  refine lv_iadd hx hb (by decide +kernel : decode code 376 = .ok (.iadd, 1)) ?_
  refine zl_ld hF hL hS 1 (kk := 1) rfl (by omega) (by decide +kernel : decode code 377 = .ok (.iaload, 1)) ?_
  refine lv_aload_n hx hb (by decide +kernel : decode code 378 = .ok (.aload_n 0, 1)) rfl (lv_at hl 0 rfl) ?_
  refine lv_iload_n hx hb (by decide +kernel : decode code 379 = .ok (.iload_n 3, 1)) rfl (lv_at hl 3 rfl) ?_
  refine lv_iconst (v := 2) hx hb (by decide +kernel : decode code 380 = .ok (.iconst 2, 1)) (by decide) ?_
  refine lv_iadd hx hb (by decide +kernel : decode code 381 = .ok (.iadd, 1)) ?_
  refine zl_ld hF hL hS 2 (kk := 2) rfl (by omega) (by decide +kernel : decode code 382 = .ok (.iaload, 1)) ?_
  refine lv_aload_n hx hb (by decide +kernel : decode code 383 = .ok (.aload_n 0, 1)) rfl (lv_at hl 0 rfl) ?_
  refine lv_iload_n hx hb (by decide +kernel : decode code 384 = .ok (.iload_n 3, 1)) rfl (lv_at hl 3 rfl) ?_
  refine lv_iconst (v := 3) hx hb (by decide +kernel : decode code 385 = .ok (.iconst 3, 1)) (by decide) ?_
  refine lv_iadd hx hb (by decide +kernel : decode code 386 = .ok (.iadd, 1)) ?_
  refine zl_ld hF hL hS 3 (kk := 3) rfl (by omega) (by decide +kernel : decode code 387 = .ok (.iaload, 1)) ?_
  refine zl_call (lay := zx_LR) (E := E2) (As0 := [.int (xs (t + 1)), .int (xs (t + 2)), .int (xs (t + 3))]) (rest := [.int r]) hF hE.2.1 h2 (Nat.le_refl 9) rfl rfl rfl lk_179 hE.2.2.2.1 ⟨Nat.le_of_ble_eq_true rfl, Nat.le_of_ble_eq_true rfl⟩ rfl rfl (Nat.le_of_ble_eq_true rfl) (by decide +kernel : decode code 388 = .ok (.invokevirtual 42, 3)) hP2 hS hl.1 (fun v S H1 locs hq hP2 hk hS => ?_)
  obtain ⟨rfl, rfl⟩ := hq
  have hP1 := zl_kept hP1 hE.2.2.2.2 hk
  generalize H1 = H at hP1 hP2 hS ⊢
  exact lv_icmp_eq (tgt := 536) hx hb (by decide +kernel : decode code 391 = .ok (.if_icmp .eq 145, 3)) (by decide) (fun _ => kk H locs ls hP1 hP2 hS hl) (fun h => absurd rfl h)
theorem wl_2_176 : (Jvm.Cond.methodLink "IntervalPackerLaw" (43 : Nat) ({ cls := "IntervalPacker", name := "unpack", desc := "()I" } : Jvm.MethodName)) ∈ zx_WS := zx_r2 (List.mem_of_getElem? (i := 176) rfl) rfl
theorem wl_2_177 : (Jvm.Cond.instanceMethod ({ cls := "IntervalPacker", name := "unpack", desc := "()I" } : Jvm.MethodName)) ∈ zx_WS := zx_r2 (List.mem_of_getElem? (i := 177) rfl) rfl
theorem wl_2_178 : (Jvm.Cond.selects "IntervalPacker" ({ cls := "IntervalPacker", name := "unpack", desc := "()I" } : Jvm.MethodName) ({ cls := "IntervalPacker", name := "unpack", desc := "()I" } : Jvm.MethodName)) ∈ zx_WS := zx_r2 (List.mem_of_getElem? (i := 178) rfl) rfl
theorem wl_2_179 : (Jvm.Cond.code ({ cls := "IntervalPacker", name := "unpack", desc := "()I" } : Jvm.MethodName) prog_1_method_8_code (2 : Nat) (Option.some Jvm.ClassFile.FieldType.int)) ∈ zx_WS := zx_r2 (List.mem_of_getElem? (i := 179) rfl) rfl
theorem lk_6 : zl_lk 43 0 "IntervalPacker" (⟨"IntervalPacker", "unpack", "()I"⟩, 0, prog_1_method_8_code, 2, (some Jvm.ClassFile.FieldType.int)) := ⟨rfl, ⟨by decide, by decide⟩, (by decide +kernel), wl_2_176, wl_2_177, wl_2_178, wl_0_1, wl_2_179, by decide⟩
theorem wl_4_59 : (Jvm.Cond.methodLink "IntervalPackerLaw" (47 : Nat) ({ cls := "IntervalPackerModel", name := "unpack", desc := "()I" } : Jvm.MethodName)) ∈ zx_WS := zx_r4 (List.mem_of_getElem? (i := 59) rfl) rfl
theorem wl_4_60 : (Jvm.Cond.instanceMethod ({ cls := "IntervalPackerModel", name := "unpack", desc := "()I" } : Jvm.MethodName)) ∈ zx_WS := zx_r4 (List.mem_of_getElem? (i := 60) rfl) rfl
theorem wl_4_61 : (Jvm.Cond.selects "IntervalPackerModel" ({ cls := "IntervalPackerModel", name := "unpack", desc := "()I" } : Jvm.MethodName) ({ cls := "IntervalPackerModel", name := "unpack", desc := "()I" } : Jvm.MethodName)) ∈ zx_WS := zx_r4 (List.mem_of_getElem? (i := 61) rfl) rfl
theorem wl_4_62 : (Jvm.Cond.code ({ cls := "IntervalPackerModel", name := "unpack", desc := "()I" } : Jvm.MethodName) prog_11_method_32_code (2 : Nat) (Option.some Jvm.ClassFile.FieldType.int)) ∈ zx_WS := zx_r4 (List.mem_of_getElem? (i := 62) rfl) rfl
theorem lk_132 : zl_lk 47 0 "IntervalPackerModel" (⟨"IntervalPackerModel", "unpack", "()I"⟩, 8, prog_11_method_32_code, 2, (some Jvm.ClassFile.FieldType.int)) := ⟨rfl, ⟨by decide, by decide⟩, (by decide +kernel), wl_4_59, wl_4_60, wl_4_61, wl_0_10, wl_4_62, by decide⟩
set_option maxHeartbeats 4000000 in
set_option maxRecDepth 100000 in
theorem zl_unpack (hF : lw_At p s m meth c b L xs) (hE : zl_E s E1 E2) (hL : L ≤ 2560) {t : Nat} (ht : t + 5 ≤ L) {r : Int32} (h1 : zx_MC l E1 6 9 [.ref 0] S1 (fun v S => v = some (.int r) ∧ S = S1')) (h2 : zx_MR l E2 132 9 [.ref 0] S2 (fun v S => v = some (.int r) ∧ S = S2')) (kk : zl_Z p l e s m below meth c b E1 E2 S1' S2' 536 (nI t)) : zl_Z p l e s m below meth c b E1 E2 S1 S2 396 (nI t) := by
  obtain ⟨hx, hb, hret, hml, hown, hts0, hX, hbl, hlk0, hgv⟩ := id hF
  have hts : ∀ w ∈ zx_WS, w.before #[Value.ref b] s = true := fun w h => hts0 w (List.mem_filter.mp h).1
  intro H locs ls hP1 hP2 hS hl
  refine lv_aload_n hx hb (by decide +kernel : decode code 396 = .ok (.aload_n 1, 1)) rfl (lv_at hl 1 rfl) ?_
  refine zl_call (lay := zx_LC) (E := E1) (As0 := []) (rest := []) hF hE.1 h1 (Nat.le_refl 9) rfl rfl rfl lk_6 hE.2.2.1 ⟨Nat.le_of_ble_eq_true rfl, Nat.le_of_ble_eq_true rfl⟩ rfl rfl (Nat.le_of_ble_eq_true rfl) (by decide +kernel : decode code 397 = .ok (.invokevirtual 43, 3)) hP1 hS hl.1 (fun v S H1 locs hq hP1 hk hS => ?_)
  obtain ⟨rfl, rfl⟩ := hq
  have hP2 := zl_kept hP2 (fun q h1 h2 => hE.2.2.2.2 q h2 h1) hk
  generalize H1 = H at hP1 hP2 hS ⊢
  refine lv_aload_n hx hb (by decide +kernel : decode code 400 = .ok (.aload_n 2, 1)) rfl (lv_at hl 2 rfl) ?_
  refine zl_call (lay := zx_LR) (E := E2) (As0 := []) (rest := [.int r]) hF hE.2.1 h2 (Nat.le_refl 9) rfl rfl rfl lk_132 hE.2.2.2.1 ⟨Nat.le_of_ble_eq_true rfl, Nat.le_of_ble_eq_true rfl⟩ rfl rfl (Nat.le_of_ble_eq_true rfl) (by decide +kernel : decode code 401 = .ok (.invokevirtual 47, 3)) hP2 hS hl.1 (fun v S H1 locs hq hP2 hk hS => ?_)
  obtain ⟨rfl, rfl⟩ := hq
  have hP1 := zl_kept hP1 hE.2.2.2.2 hk
  generalize H1 = H at hP1 hP2 hS ⊢
  exact lv_icmp_eq (tgt := 536) hx hb (by decide +kernel : decode code 404 = .ok (.if_icmp .eq 132, 3)) (by decide) (fun _ => kk H locs ls hP1 hP2 hS hl) (fun h => absurd rfl h)
theorem wl_3_105 : (Jvm.Cond.methodLink "IntervalPackerLaw" (48 : Nat) ({ cls := "IntervalPacker", name := "where", desc := "()I" } : Jvm.MethodName)) ∈ zx_WS := zx_r3 (List.mem_of_getElem? (i := 105) rfl) rfl
theorem wl_3_106 : (Jvm.Cond.instanceMethod ({ cls := "IntervalPacker", name := "where", desc := "()I" } : Jvm.MethodName)) ∈ zx_WS := zx_r3 (List.mem_of_getElem? (i := 106) rfl) rfl
theorem wl_3_107 : (Jvm.Cond.selects "IntervalPacker" ({ cls := "IntervalPacker", name := "where", desc := "()I" } : Jvm.MethodName) ({ cls := "IntervalPacker", name := "where", desc := "()I" } : Jvm.MethodName)) ∈ zx_WS := zx_r3 (List.mem_of_getElem? (i := 107) rfl) rfl
theorem wl_3_108 : (Jvm.Cond.code ({ cls := "IntervalPacker", name := "where", desc := "()I" } : Jvm.MethodName) prog_1_method_9_code (1 : Nat) (Option.some Jvm.ClassFile.FieldType.int)) ∈ zx_WS := zx_r3 (List.mem_of_getElem? (i := 108) rfl) rfl
theorem lk_7 : zl_lk 48 0 "IntervalPacker" (⟨"IntervalPacker", "where", "()I"⟩, 0, prog_1_method_9_code, 1, (some Jvm.ClassFile.FieldType.int)) := ⟨rfl, ⟨by decide, by decide⟩, (by decide +kernel), wl_3_105, wl_3_106, wl_3_107, wl_0_1, wl_3_108, by decide⟩
theorem wl_4_233 : (Jvm.Cond.methodLink "IntervalPackerLaw" (51 : Nat) ({ cls := "IntervalPackerModel", name := "where", desc := "()I" } : Jvm.MethodName)) ∈ zx_WS := zx_r4 (List.mem_of_getElem? (i := 233) rfl) rfl
theorem wl_4_234 : (Jvm.Cond.instanceMethod ({ cls := "IntervalPackerModel", name := "where", desc := "()I" } : Jvm.MethodName)) ∈ zx_WS := zx_r4 (List.mem_of_getElem? (i := 234) rfl) rfl
theorem wl_4_235 : (Jvm.Cond.selects "IntervalPackerModel" ({ cls := "IntervalPackerModel", name := "where", desc := "()I" } : Jvm.MethodName) ({ cls := "IntervalPackerModel", name := "where", desc := "()I" } : Jvm.MethodName)) ∈ zx_WS := zx_r4 (List.mem_of_getElem? (i := 235) rfl) rfl
theorem wl_4_236 : (Jvm.Cond.code ({ cls := "IntervalPackerModel", name := "where", desc := "()I" } : Jvm.MethodName) prog_11_method_33_code (1 : Nat) (Option.some Jvm.ClassFile.FieldType.int)) ∈ zx_WS := zx_r4 (List.mem_of_getElem? (i := 236) rfl) rfl
theorem lk_133 : zl_lk 51 0 "IntervalPackerModel" (⟨"IntervalPackerModel", "where", "()I"⟩, 8, prog_11_method_33_code, 1, (some Jvm.ClassFile.FieldType.int)) := ⟨rfl, ⟨by decide, by decide⟩, (by decide +kernel), wl_4_233, wl_4_234, wl_4_235, wl_0_10, wl_4_236, by decide⟩
set_option maxHeartbeats 4000000 in
set_option maxRecDepth 100000 in
theorem zl_where (hF : lw_At p s m meth c b L xs) (hE : zl_E s E1 E2) (hL : L ≤ 2560) {t : Nat} (ht : t + 5 ≤ L) {r : Int32} (h1 : zx_MC l E1 7 9 [.ref 0] S1 (fun v S => v = some (.int r) ∧ S = S1')) (h2 : zx_MR l E2 133 9 [.ref 0] S2 (fun v S => v = some (.int r) ∧ S = S2')) (kk : zl_Z p l e s m below meth c b E1 E2 S1' S2' 536 (nI t)) : zl_Z p l e s m below meth c b E1 E2 S1 S2 409 (nI t) := by
  obtain ⟨hx, hb, hret, hml, hown, hts0, hX, hbl, hlk0, hgv⟩ := id hF
  have hts : ∀ w ∈ zx_WS, w.before #[Value.ref b] s = true := fun w h => hts0 w (List.mem_filter.mp h).1
  intro H locs ls hP1 hP2 hS hl
  refine lv_aload_n hx hb (by decide +kernel : decode code 409 = .ok (.aload_n 1, 1)) rfl (lv_at hl 1 rfl) ?_
  refine zl_call (lay := zx_LC) (E := E1) (As0 := []) (rest := []) hF hE.1 h1 (Nat.le_refl 9) rfl rfl rfl lk_7 hE.2.2.1 ⟨Nat.le_of_ble_eq_true rfl, Nat.le_of_ble_eq_true rfl⟩ rfl rfl (Nat.le_of_ble_eq_true rfl) (by decide +kernel : decode code 410 = .ok (.invokevirtual 48, 3)) hP1 hS hl.1 (fun v S H1 locs hq hP1 hk hS => ?_)
  obtain ⟨rfl, rfl⟩ := hq
  have hP2 := zl_kept hP2 (fun q h1 h2 => hE.2.2.2.2 q h2 h1) hk
  generalize H1 = H at hP1 hP2 hS ⊢
  refine lv_aload_n hx hb (by decide +kernel : decode code 413 = .ok (.aload_n 2, 1)) rfl (lv_at hl 2 rfl) ?_
  refine zl_call (lay := zx_LR) (E := E2) (As0 := []) (rest := [.int r]) hF hE.2.1 h2 (Nat.le_refl 9) rfl rfl rfl lk_133 hE.2.2.2.1 ⟨Nat.le_of_ble_eq_true rfl, Nat.le_of_ble_eq_true rfl⟩ rfl rfl (Nat.le_of_ble_eq_true rfl) (by decide +kernel : decode code 414 = .ok (.invokevirtual 51, 3)) hP2 hS hl.1 (fun v S H1 locs hq hP2 hk hS => ?_)
  obtain ⟨rfl, rfl⟩ := hq
  have hP1 := zl_kept hP1 hE.2.2.2.2 hk
  generalize H1 = H at hP1 hP2 hS ⊢
  exact lv_icmp_eq (tgt := 536) hx hb (by decide +kernel : decode code 417 = .ok (.if_icmp .eq 119, 3)) (by decide) (fun _ => kk H locs ls hP1 hP2 hS hl) (fun h => absurd rfl h)
theorem wl_3_109 : (Jvm.Cond.methodLink "IntervalPackerLaw" (52 : Nat) ({ cls := "IntervalPacker", name := "watch", desc := "(I)Z" } : Jvm.MethodName)) ∈ zx_WS := zx_r3 (List.mem_of_getElem? (i := 109) rfl) rfl
theorem wl_3_110 : (Jvm.Cond.instanceMethod ({ cls := "IntervalPacker", name := "watch", desc := "(I)Z" } : Jvm.MethodName)) ∈ zx_WS := zx_r3 (List.mem_of_getElem? (i := 110) rfl) rfl
theorem wl_3_111 : (Jvm.Cond.selects "IntervalPacker" ({ cls := "IntervalPacker", name := "watch", desc := "(I)Z" } : Jvm.MethodName) ({ cls := "IntervalPacker", name := "watch", desc := "(I)Z" } : Jvm.MethodName)) ∈ zx_WS := zx_r3 (List.mem_of_getElem? (i := 111) rfl) rfl
theorem wl_3_112 : (Jvm.Cond.code ({ cls := "IntervalPacker", name := "watch", desc := "(I)Z" } : Jvm.MethodName) prog_1_method_10_code (2 : Nat) (Option.some Jvm.ClassFile.FieldType.boolean)) ∈ zx_WS := zx_r3 (List.mem_of_getElem? (i := 112) rfl) rfl
theorem lk_8 : zl_lk 52 1 "IntervalPacker" (⟨"IntervalPacker", "watch", "(I)Z"⟩, 0, prog_1_method_10_code, 2, (some Jvm.ClassFile.FieldType.boolean)) := ⟨rfl, ⟨by decide, by decide⟩, (by decide +kernel), wl_3_109, wl_3_110, wl_3_111, wl_0_1, wl_3_112, by decide⟩
theorem wl_4_237 : (Jvm.Cond.methodLink "IntervalPackerLaw" (56 : Nat) ({ cls := "IntervalPackerModel", name := "watch", desc := "(I)Z" } : Jvm.MethodName)) ∈ zx_WS := zx_r4 (List.mem_of_getElem? (i := 237) rfl) rfl
theorem wl_4_238 : (Jvm.Cond.instanceMethod ({ cls := "IntervalPackerModel", name := "watch", desc := "(I)Z" } : Jvm.MethodName)) ∈ zx_WS := zx_r4 (List.mem_of_getElem? (i := 238) rfl) rfl
theorem wl_4_239 : (Jvm.Cond.selects "IntervalPackerModel" ({ cls := "IntervalPackerModel", name := "watch", desc := "(I)Z" } : Jvm.MethodName) ({ cls := "IntervalPackerModel", name := "watch", desc := "(I)Z" } : Jvm.MethodName)) ∈ zx_WS := zx_r4 (List.mem_of_getElem? (i := 239) rfl) rfl
theorem wl_5_0 : (Jvm.Cond.code ({ cls := "IntervalPackerModel", name := "watch", desc := "(I)Z" } : Jvm.MethodName) prog_11_method_34_code (2 : Nat) (Option.some Jvm.ClassFile.FieldType.boolean)) ∈ zx_WS := zx_r5 (List.mem_of_getElem? (i := 0) rfl) rfl
theorem lk_134 : zl_lk 56 1 "IntervalPackerModel" (⟨"IntervalPackerModel", "watch", "(I)Z"⟩, 8, prog_11_method_34_code, 2, (some Jvm.ClassFile.FieldType.boolean)) := ⟨rfl, ⟨by decide, by decide⟩, (by decide +kernel), wl_4_237, wl_4_238, wl_4_239, wl_0_10, wl_5_0, by decide⟩
set_option maxHeartbeats 4000000 in
set_option maxRecDepth 100000 in
theorem zl_watch (hF : lw_At p s m meth c b L xs) (hE : zl_E s E1 E2) (hL : L ≤ 2560) {t : Nat} (ht : t + 5 ≤ L) {r : Int32} (h1 : zx_MC l E1 8 9 [.ref 0, .int (xs (t + 1))] S1 (fun v S => v = some (.int r) ∧ S = S1')) (h2 : zx_MR l E2 134 9 [.ref 0, .int (xs (t + 1))] S2 (fun v S => v = some (.int r) ∧ S = S2')) (kk : zl_Z p l e s m below meth c b E1 E2 S1' S2' 536 (nI t)) : zl_Z p l e s m below meth c b E1 E2 S1 S2 422 (nI t) := by
  obtain ⟨hx, hb, hret, hml, hown, hts0, hX, hbl, hlk0, hgv⟩ := id hF
  have hts : ∀ w ∈ zx_WS, w.before #[Value.ref b] s = true := fun w h => hts0 w (List.mem_filter.mp h).1
  intro H locs ls hP1 hP2 hS hl
  refine lv_aload_n hx hb (by decide +kernel : decode code 422 = .ok (.aload_n 1, 1)) rfl (lv_at hl 1 rfl) ?_
  refine lv_aload_n hx hb (by decide +kernel : decode code 423 = .ok (.aload_n 0, 1)) rfl (lv_at hl 0 rfl) ?_
  refine lv_iload_n hx hb (by decide +kernel : decode code 424 = .ok (.iload_n 3, 1)) rfl (lv_at hl 3 rfl) ?_
  refine lv_iconst (v := 1) hx hb (by decide +kernel : decode code 425 = .ok (.iconst 1, 1)) (by decide) ?_
  refine lv_iadd hx hb (by decide +kernel : decode code 426 = .ok (.iadd, 1)) ?_
  refine zl_ld hF hL hS 1 (kk := 1) rfl (by omega) (by decide +kernel : decode code 427 = .ok (.iaload, 1)) ?_
  refine zl_call (lay := zx_LC) (E := E1) (As0 := [.int (xs (t + 1))]) (rest := []) hF hE.1 h1 (Nat.le_refl 9) rfl rfl rfl lk_8 hE.2.2.1 ⟨Nat.le_of_ble_eq_true rfl, Nat.le_of_ble_eq_true rfl⟩ rfl rfl (Nat.le_of_ble_eq_true rfl) (by decide +kernel : decode code 428 = .ok (.invokevirtual 52, 3)) hP1 hS hl.1 (fun v S H1 locs hq hP1 hk hS => ?_)
  obtain ⟨rfl, rfl⟩ := hq
  have hP2 := zl_kept hP2 (fun q h1 h2 => hE.2.2.2.2 q h2 h1) hk
  generalize H1 = H at hP1 hP2 hS ⊢
  refine lv_aload_n hx hb (by decide +kernel : decode code 431 = .ok (.aload_n 2, 1)) rfl (lv_at hl 2 rfl) ?_
  refine lv_aload_n hx hb (by decide +kernel : decode code 432 = .ok (.aload_n 0, 1)) rfl (lv_at hl 0 rfl) ?_
  refine lv_iload_n hx hb (by decide +kernel : decode code 433 = .ok (.iload_n 3, 1)) rfl (lv_at hl 3 rfl) ?_
  refine lv_iconst (v := 1) hx hb (by decide +kernel : decode code 434 = .ok (.iconst 1, 1)) (by decide) ?_
  refine lv_iadd hx hb (by decide +kernel : decode code 435 = .ok (.iadd, 1)) ?_
  refine zl_ld hF hL hS 1 (kk := 1) rfl (by omega) (by decide +kernel : decode code 436 = .ok (.iaload, 1)) ?_
  refine zl_call (lay := zx_LR) (E := E2) (As0 := [.int (xs (t + 1))]) (rest := [.int r]) hF hE.2.1 h2 (Nat.le_refl 9) rfl rfl rfl lk_134 hE.2.2.2.1 ⟨Nat.le_of_ble_eq_true rfl, Nat.le_of_ble_eq_true rfl⟩ rfl rfl (Nat.le_of_ble_eq_true rfl) (by decide +kernel : decode code 437 = .ok (.invokevirtual 56, 3)) hP2 hS hl.1 (fun v S H1 locs hq hP2 hk hS => ?_)
  obtain ⟨rfl, rfl⟩ := hq
  have hP1 := zl_kept hP1 hE.2.2.2.2 hk
  generalize H1 = H at hP1 hP2 hS ⊢
  exact lv_icmp_eq (tgt := 536) hx hb (by decide +kernel : decode code 440 = .ok (.if_icmp .eq 96, 3)) (by decide) (fun _ => kk H locs ls hP1 hP2 hS hl) (fun h => absurd rfl h)
theorem wl_3_113 : (Jvm.Cond.methodLink "IntervalPackerLaw" (57 : Nat) ({ cls := "IntervalPacker", name := "range", desc := "()J" } : Jvm.MethodName)) ∈ zx_WS := zx_r3 (List.mem_of_getElem? (i := 113) rfl) rfl
theorem wl_3_114 : (Jvm.Cond.instanceMethod ({ cls := "IntervalPacker", name := "range", desc := "()J" } : Jvm.MethodName)) ∈ zx_WS := zx_r3 (List.mem_of_getElem? (i := 114) rfl) rfl
theorem wl_3_115 : (Jvm.Cond.selects "IntervalPacker" ({ cls := "IntervalPacker", name := "range", desc := "()J" } : Jvm.MethodName) ({ cls := "IntervalPacker", name := "range", desc := "()J" } : Jvm.MethodName)) ∈ zx_WS := zx_r3 (List.mem_of_getElem? (i := 115) rfl) rfl
theorem wl_3_116 : (Jvm.Cond.code ({ cls := "IntervalPacker", name := "range", desc := "()J" } : Jvm.MethodName) prog_1_method_11_code (1 : Nat) (Option.some Jvm.ClassFile.FieldType.long)) ∈ zx_WS := zx_r3 (List.mem_of_getElem? (i := 116) rfl) rfl
theorem lk_9 : zl_lk 57 0 "IntervalPacker" (⟨"IntervalPacker", "range", "()J"⟩, 0, prog_1_method_11_code, 1, (some Jvm.ClassFile.FieldType.long)) := ⟨rfl, ⟨by decide, by decide⟩, (by decide +kernel), wl_3_113, wl_3_114, wl_3_115, wl_0_1, wl_3_116, by decide⟩
theorem wl_5_1 : (Jvm.Cond.methodLink "IntervalPackerLaw" (61 : Nat) ({ cls := "IntervalPackerModel", name := "range", desc := "()J" } : Jvm.MethodName)) ∈ zx_WS := zx_r5 (List.mem_of_getElem? (i := 1) rfl) rfl
theorem wl_5_2 : (Jvm.Cond.instanceMethod ({ cls := "IntervalPackerModel", name := "range", desc := "()J" } : Jvm.MethodName)) ∈ zx_WS := zx_r5 (List.mem_of_getElem? (i := 2) rfl) rfl
theorem wl_5_3 : (Jvm.Cond.selects "IntervalPackerModel" ({ cls := "IntervalPackerModel", name := "range", desc := "()J" } : Jvm.MethodName) ({ cls := "IntervalPackerModel", name := "range", desc := "()J" } : Jvm.MethodName)) ∈ zx_WS := zx_r5 (List.mem_of_getElem? (i := 3) rfl) rfl
theorem wl_5_4 : (Jvm.Cond.code ({ cls := "IntervalPackerModel", name := "range", desc := "()J" } : Jvm.MethodName) prog_11_method_35_code (1 : Nat) (Option.some Jvm.ClassFile.FieldType.long)) ∈ zx_WS := zx_r5 (List.mem_of_getElem? (i := 4) rfl) rfl
theorem lk_135 : zl_lk 61 0 "IntervalPackerModel" (⟨"IntervalPackerModel", "range", "()J"⟩, 8, prog_11_method_35_code, 1, (some Jvm.ClassFile.FieldType.long)) := ⟨rfl, ⟨by decide, by decide⟩, (by decide +kernel), wl_5_1, wl_5_2, wl_5_3, wl_0_10, wl_5_4, by decide⟩
set_option maxHeartbeats 4000000 in
set_option maxRecDepth 100000 in
theorem zl_range (hF : lw_At p s m meth c b L xs) (hE : zl_E s E1 E2) (hL : L ≤ 2560) {t : Nat} (ht : t + 5 ≤ L) {r : Int64} (h1 : zx_MC l E1 9 9 [.ref 0] S1 (fun v S => v = some (.long r) ∧ S = S1')) (h2 : zx_MR l E2 135 9 [.ref 0] S2 (fun v S => v = some (.long r) ∧ S = S2')) (kk : zl_Z p l e s m below meth c b E1 E2 S1' S2' 536 (nI t)) : zl_Z p l e s m below meth c b E1 E2 S1 S2 445 (nI t) := by
  obtain ⟨hx, hb, hret, hml, hown, hts0, hX, hbl, hlk0, hgv⟩ := id hF
  have hts : ∀ w ∈ zx_WS, w.before #[Value.ref b] s = true := fun w h => hts0 w (List.mem_filter.mp h).1
  intro H locs ls hP1 hP2 hS hl
  refine lv_aload_n hx hb (by decide +kernel : decode code 445 = .ok (.aload_n 1, 1)) rfl (lv_at hl 1 rfl) ?_
  refine zl_call (lay := zx_LC) (E := E1) (As0 := []) (rest := []) hF hE.1 h1 (Nat.le_refl 9) rfl rfl rfl lk_9 hE.2.2.1 ⟨Nat.le_of_ble_eq_true rfl, Nat.le_of_ble_eq_true rfl⟩ rfl rfl (Nat.le_of_ble_eq_true rfl) (by decide +kernel : decode code 446 = .ok (.invokevirtual 57, 3)) hP1 hS hl.1 (fun v S H1 locs hq hP1 hk hS => ?_)
  obtain ⟨rfl, rfl⟩ := hq
  have hP2 := zl_kept hP2 (fun q h1 h2 => hE.2.2.2.2 q h2 h1) hk
  generalize H1 = H at hP1 hP2 hS ⊢
  refine lv_aload_n hx hb (by decide +kernel : decode code 449 = .ok (.aload_n 2, 1)) rfl (lv_at hl 2 rfl) ?_
  refine zl_call (lay := zx_LR) (E := E2) (As0 := []) (rest := [.long r]) hF hE.2.1 h2 (Nat.le_refl 9) rfl rfl rfl lk_135 hE.2.2.2.1 ⟨Nat.le_of_ble_eq_true rfl, Nat.le_of_ble_eq_true rfl⟩ rfl rfl (Nat.le_of_ble_eq_true rfl) (by decide +kernel : decode code 450 = .ok (.invokevirtual 61, 3)) hP2 hS hl.1 (fun v S H1 locs hq hP2 hk hS => ?_)
  obtain ⟨rfl, rfl⟩ := hq
  have hP1 := zl_kept hP1 hE.2.2.2.2 hk
  generalize H1 = H at hP1 hP2 hS ⊢
  refine W.lcmp hx hb (by decide +kernel : decode code 453 = .ok (.lcmp, 1)) ?_
  exact lv_if_eq (tgt := 536) hx hb (by decide +kernel : decode code 454 = .ok (.ifCond .eq 82, 3)) (by decide) (fun _ => kk H locs ls hP1 hP2 hS hl) (fun h => absurd ((lg_cmp_eq r r).mpr rfl) h)
theorem wl_3_117 : (Jvm.Cond.methodLink "IntervalPackerLaw" (62 : Nat) ({ cls := "IntervalPacker", name := "code", desc := "()J" } : Jvm.MethodName)) ∈ zx_WS := zx_r3 (List.mem_of_getElem? (i := 117) rfl) rfl
theorem wl_3_118 : (Jvm.Cond.instanceMethod ({ cls := "IntervalPacker", name := "code", desc := "()J" } : Jvm.MethodName)) ∈ zx_WS := zx_r3 (List.mem_of_getElem? (i := 118) rfl) rfl
theorem wl_3_119 : (Jvm.Cond.selects "IntervalPacker" ({ cls := "IntervalPacker", name := "code", desc := "()J" } : Jvm.MethodName) ({ cls := "IntervalPacker", name := "code", desc := "()J" } : Jvm.MethodName)) ∈ zx_WS := zx_r3 (List.mem_of_getElem? (i := 119) rfl) rfl
theorem wl_3_120 : (Jvm.Cond.code ({ cls := "IntervalPacker", name := "code", desc := "()J" } : Jvm.MethodName) prog_1_method_12_code (1 : Nat) (Option.some Jvm.ClassFile.FieldType.long)) ∈ zx_WS := zx_r3 (List.mem_of_getElem? (i := 120) rfl) rfl
theorem lk_10 : zl_lk 62 0 "IntervalPacker" (⟨"IntervalPacker", "code", "()J"⟩, 0, prog_1_method_12_code, 1, (some Jvm.ClassFile.FieldType.long)) := ⟨rfl, ⟨by decide, by decide⟩, (by decide +kernel), wl_3_117, wl_3_118, wl_3_119, wl_0_1, wl_3_120, by decide⟩
theorem wl_5_5 : (Jvm.Cond.methodLink "IntervalPackerLaw" (65 : Nat) ({ cls := "IntervalPackerModel", name := "code", desc := "()J" } : Jvm.MethodName)) ∈ zx_WS := zx_r5 (List.mem_of_getElem? (i := 5) rfl) rfl
theorem wl_5_6 : (Jvm.Cond.instanceMethod ({ cls := "IntervalPackerModel", name := "code", desc := "()J" } : Jvm.MethodName)) ∈ zx_WS := zx_r5 (List.mem_of_getElem? (i := 6) rfl) rfl
theorem wl_5_7 : (Jvm.Cond.selects "IntervalPackerModel" ({ cls := "IntervalPackerModel", name := "code", desc := "()J" } : Jvm.MethodName) ({ cls := "IntervalPackerModel", name := "code", desc := "()J" } : Jvm.MethodName)) ∈ zx_WS := zx_r5 (List.mem_of_getElem? (i := 7) rfl) rfl
theorem wl_5_8 : (Jvm.Cond.code ({ cls := "IntervalPackerModel", name := "code", desc := "()J" } : Jvm.MethodName) prog_11_method_36_code (1 : Nat) (Option.some Jvm.ClassFile.FieldType.long)) ∈ zx_WS := zx_r5 (List.mem_of_getElem? (i := 8) rfl) rfl
theorem lk_136 : zl_lk 65 0 "IntervalPackerModel" (⟨"IntervalPackerModel", "code", "()J"⟩, 8, prog_11_method_36_code, 1, (some Jvm.ClassFile.FieldType.long)) := ⟨rfl, ⟨by decide, by decide⟩, (by decide +kernel), wl_5_5, wl_5_6, wl_5_7, wl_0_10, wl_5_8, by decide⟩
set_option maxHeartbeats 4000000 in
set_option maxRecDepth 100000 in
theorem zl_code (hF : lw_At p s m meth c b L xs) (hE : zl_E s E1 E2) (hL : L ≤ 2560) {t : Nat} (ht : t + 5 ≤ L) {r : Int64} (h1 : zx_MC l E1 10 9 [.ref 0] S1 (fun v S => v = some (.long r) ∧ S = S1')) (h2 : zx_MR l E2 136 9 [.ref 0] S2 (fun v S => v = some (.long r) ∧ S = S2')) (kk : zl_Z p l e s m below meth c b E1 E2 S1' S2' 536 (nI t)) : zl_Z p l e s m below meth c b E1 E2 S1 S2 459 (nI t) := by
  obtain ⟨hx, hb, hret, hml, hown, hts0, hX, hbl, hlk0, hgv⟩ := id hF
  have hts : ∀ w ∈ zx_WS, w.before #[Value.ref b] s = true := fun w h => hts0 w (List.mem_filter.mp h).1
  intro H locs ls hP1 hP2 hS hl
  refine lv_aload_n hx hb (by decide +kernel : decode code 459 = .ok (.aload_n 1, 1)) rfl (lv_at hl 1 rfl) ?_
  refine zl_call (lay := zx_LC) (E := E1) (As0 := []) (rest := []) hF hE.1 h1 (Nat.le_refl 9) rfl rfl rfl lk_10 hE.2.2.1 ⟨Nat.le_of_ble_eq_true rfl, Nat.le_of_ble_eq_true rfl⟩ rfl rfl (Nat.le_of_ble_eq_true rfl) (by decide +kernel : decode code 460 = .ok (.invokevirtual 62, 3)) hP1 hS hl.1 (fun v S H1 locs hq hP1 hk hS => ?_)
  obtain ⟨rfl, rfl⟩ := hq
  have hP2 := zl_kept hP2 (fun q h1 h2 => hE.2.2.2.2 q h2 h1) hk
  generalize H1 = H at hP1 hP2 hS ⊢
  refine lv_aload_n hx hb (by decide +kernel : decode code 463 = .ok (.aload_n 2, 1)) rfl (lv_at hl 2 rfl) ?_
  refine zl_call (lay := zx_LR) (E := E2) (As0 := []) (rest := [.long r]) hF hE.2.1 h2 (Nat.le_refl 9) rfl rfl rfl lk_136 hE.2.2.2.1 ⟨Nat.le_of_ble_eq_true rfl, Nat.le_of_ble_eq_true rfl⟩ rfl rfl (Nat.le_of_ble_eq_true rfl) (by decide +kernel : decode code 464 = .ok (.invokevirtual 65, 3)) hP2 hS hl.1 (fun v S H1 locs hq hP2 hk hS => ?_)
  obtain ⟨rfl, rfl⟩ := hq
  have hP1 := zl_kept hP1 hE.2.2.2.2 hk
  generalize H1 = H at hP1 hP2 hS ⊢
  refine W.lcmp hx hb (by decide +kernel : decode code 467 = .ok (.lcmp, 1)) ?_
  exact lv_if_eq (tgt := 536) hx hb (by decide +kernel : decode code 468 = .ok (.ifCond .eq 68, 3)) (by decide) (fun _ => kk H locs ls hP1 hP2 hS hl) (fun h => absurd ((lg_cmp_eq r r).mpr rfl) h)
theorem wl_3_121 : (Jvm.Cond.methodLink "IntervalPackerLaw" (66 : Nat) ({ cls := "IntervalPacker", name := "count", desc := "(I)I" } : Jvm.MethodName)) ∈ zx_WS := zx_r3 (List.mem_of_getElem? (i := 121) rfl) rfl
theorem wl_3_122 : (Jvm.Cond.instanceMethod ({ cls := "IntervalPacker", name := "count", desc := "(I)I" } : Jvm.MethodName)) ∈ zx_WS := zx_r3 (List.mem_of_getElem? (i := 122) rfl) rfl
theorem wl_3_123 : (Jvm.Cond.selects "IntervalPacker" ({ cls := "IntervalPacker", name := "count", desc := "(I)I" } : Jvm.MethodName) ({ cls := "IntervalPacker", name := "count", desc := "(I)I" } : Jvm.MethodName)) ∈ zx_WS := zx_r3 (List.mem_of_getElem? (i := 123) rfl) rfl
theorem wl_3_124 : (Jvm.Cond.code ({ cls := "IntervalPacker", name := "count", desc := "(I)I" } : Jvm.MethodName) prog_1_method_13_code (2 : Nat) (Option.some Jvm.ClassFile.FieldType.int)) ∈ zx_WS := zx_r3 (List.mem_of_getElem? (i := 124) rfl) rfl
theorem lk_11 : zl_lk 66 1 "IntervalPacker" (⟨"IntervalPacker", "count", "(I)I"⟩, 0, prog_1_method_13_code, 2, (some Jvm.ClassFile.FieldType.int)) := ⟨rfl, ⟨by decide, by decide⟩, (by decide +kernel), wl_3_121, wl_3_122, wl_3_123, wl_0_1, wl_3_124, by decide⟩
theorem wl_5_9 : (Jvm.Cond.methodLink "IntervalPackerLaw" (70 : Nat) ({ cls := "IntervalPackerModel", name := "count", desc := "(I)I" } : Jvm.MethodName)) ∈ zx_WS := zx_r5 (List.mem_of_getElem? (i := 9) rfl) rfl
theorem wl_5_10 : (Jvm.Cond.instanceMethod ({ cls := "IntervalPackerModel", name := "count", desc := "(I)I" } : Jvm.MethodName)) ∈ zx_WS := zx_r5 (List.mem_of_getElem? (i := 10) rfl) rfl
theorem wl_5_11 : (Jvm.Cond.selects "IntervalPackerModel" ({ cls := "IntervalPackerModel", name := "count", desc := "(I)I" } : Jvm.MethodName) ({ cls := "IntervalPackerModel", name := "count", desc := "(I)I" } : Jvm.MethodName)) ∈ zx_WS := zx_r5 (List.mem_of_getElem? (i := 11) rfl) rfl
theorem wl_5_12 : (Jvm.Cond.code ({ cls := "IntervalPackerModel", name := "count", desc := "(I)I" } : Jvm.MethodName) prog_11_method_37_code (2 : Nat) (Option.some Jvm.ClassFile.FieldType.int)) ∈ zx_WS := zx_r5 (List.mem_of_getElem? (i := 12) rfl) rfl
theorem lk_137 : zl_lk 70 1 "IntervalPackerModel" (⟨"IntervalPackerModel", "count", "(I)I"⟩, 8, prog_11_method_37_code, 2, (some Jvm.ClassFile.FieldType.int)) := ⟨rfl, ⟨by decide, by decide⟩, (by decide +kernel), wl_5_9, wl_5_10, wl_5_11, wl_0_10, wl_5_12, by decide⟩
set_option maxHeartbeats 4000000 in
set_option maxRecDepth 100000 in
theorem zl_count (hF : lw_At p s m meth c b L xs) (hE : zl_E s E1 E2) (hL : L ≤ 2560) {t : Nat} (ht : t + 5 ≤ L) {r : Int32} (h1 : zx_MC l E1 11 9 [.ref 0, .int (xs (t + 1))] S1 (fun v S => v = some (.int r) ∧ S = S1')) (h2 : zx_MR l E2 137 9 [.ref 0, .int (xs (t + 1))] S2 (fun v S => v = some (.int r) ∧ S = S2')) (kk : zl_Z p l e s m below meth c b E1 E2 S1' S2' 536 (nI t)) : zl_Z p l e s m below meth c b E1 E2 S1 S2 473 (nI t) := by
  obtain ⟨hx, hb, hret, hml, hown, hts0, hX, hbl, hlk0, hgv⟩ := id hF
  have hts : ∀ w ∈ zx_WS, w.before #[Value.ref b] s = true := fun w h => hts0 w (List.mem_filter.mp h).1
  intro H locs ls hP1 hP2 hS hl
  refine lv_aload_n hx hb (by decide +kernel : decode code 473 = .ok (.aload_n 1, 1)) rfl (lv_at hl 1 rfl) ?_
  refine lv_aload_n hx hb (by decide +kernel : decode code 474 = .ok (.aload_n 0, 1)) rfl (lv_at hl 0 rfl) ?_
  refine lv_iload_n hx hb (by decide +kernel : decode code 475 = .ok (.iload_n 3, 1)) rfl (lv_at hl 3 rfl) ?_
  refine lv_iconst (v := 1) hx hb (by decide +kernel : decode code 476 = .ok (.iconst 1, 1)) (by decide) ?_
  refine lv_iadd hx hb (by decide +kernel : decode code 477 = .ok (.iadd, 1)) ?_
  refine zl_ld hF hL hS 1 (kk := 1) rfl (by omega) (by decide +kernel : decode code 478 = .ok (.iaload, 1)) ?_
  refine zl_call (lay := zx_LC) (E := E1) (As0 := [.int (xs (t + 1))]) (rest := []) hF hE.1 h1 (Nat.le_refl 9) rfl rfl rfl lk_11 hE.2.2.1 ⟨Nat.le_of_ble_eq_true rfl, Nat.le_of_ble_eq_true rfl⟩ rfl rfl (Nat.le_of_ble_eq_true rfl) (by decide +kernel : decode code 479 = .ok (.invokevirtual 66, 3)) hP1 hS hl.1 (fun v S H1 locs hq hP1 hk hS => ?_)
  obtain ⟨rfl, rfl⟩ := hq
  have hP2 := zl_kept hP2 (fun q h1 h2 => hE.2.2.2.2 q h2 h1) hk
  generalize H1 = H at hP1 hP2 hS ⊢
  refine lv_aload_n hx hb (by decide +kernel : decode code 482 = .ok (.aload_n 2, 1)) rfl (lv_at hl 2 rfl) ?_
  refine lv_aload_n hx hb (by decide +kernel : decode code 483 = .ok (.aload_n 0, 1)) rfl (lv_at hl 0 rfl) ?_
  refine lv_iload_n hx hb (by decide +kernel : decode code 484 = .ok (.iload_n 3, 1)) rfl (lv_at hl 3 rfl) ?_
  refine lv_iconst (v := 1) hx hb (by decide +kernel : decode code 485 = .ok (.iconst 1, 1)) (by decide) ?_
  refine lv_iadd hx hb (by decide +kernel : decode code 486 = .ok (.iadd, 1)) ?_
  refine zl_ld hF hL hS 1 (kk := 1) rfl (by omega) (by decide +kernel : decode code 487 = .ok (.iaload, 1)) ?_
  refine zl_call (lay := zx_LR) (E := E2) (As0 := [.int (xs (t + 1))]) (rest := [.int r]) hF hE.2.1 h2 (Nat.le_refl 9) rfl rfl rfl lk_137 hE.2.2.2.1 ⟨Nat.le_of_ble_eq_true rfl, Nat.le_of_ble_eq_true rfl⟩ rfl rfl (Nat.le_of_ble_eq_true rfl) (by decide +kernel : decode code 488 = .ok (.invokevirtual 70, 3)) hP2 hS hl.1 (fun v S H1 locs hq hP2 hk hS => ?_)
  obtain ⟨rfl, rfl⟩ := hq
  have hP1 := zl_kept hP1 hE.2.2.2.2 hk
  generalize H1 = H at hP1 hP2 hS ⊢
  exact lv_icmp_eq (tgt := 536) hx hb (by decide +kernel : decode code 491 = .ok (.if_icmp .eq 45, 3)) (by decide) (fun _ => kk H locs ls hP1 hP2 hS hl) (fun h => absurd rfl h)
theorem wl_3_125 : (Jvm.Cond.methodLink "IntervalPackerLaw" (71 : Nat) ({ cls := "IntervalPacker", name := "sum", desc := "(Z)J" } : Jvm.MethodName)) ∈ zx_WS := zx_r3 (List.mem_of_getElem? (i := 125) rfl) rfl
theorem wl_3_126 : (Jvm.Cond.instanceMethod ({ cls := "IntervalPacker", name := "sum", desc := "(Z)J" } : Jvm.MethodName)) ∈ zx_WS := zx_r3 (List.mem_of_getElem? (i := 126) rfl) rfl
theorem wl_3_127 : (Jvm.Cond.selects "IntervalPacker" ({ cls := "IntervalPacker", name := "sum", desc := "(Z)J" } : Jvm.MethodName) ({ cls := "IntervalPacker", name := "sum", desc := "(Z)J" } : Jvm.MethodName)) ∈ zx_WS := zx_r3 (List.mem_of_getElem? (i := 127) rfl) rfl
theorem wl_3_128 : (Jvm.Cond.code ({ cls := "IntervalPacker", name := "sum", desc := "(Z)J" } : Jvm.MethodName) prog_1_method_14_code (2 : Nat) (Option.some Jvm.ClassFile.FieldType.long)) ∈ zx_WS := zx_r3 (List.mem_of_getElem? (i := 128) rfl) rfl
theorem lk_12 : zl_lk 71 1 "IntervalPacker" (⟨"IntervalPacker", "sum", "(Z)J"⟩, 0, prog_1_method_14_code, 2, (some Jvm.ClassFile.FieldType.long)) := ⟨rfl, ⟨by decide, by decide⟩, (by decide +kernel), wl_3_125, wl_3_126, wl_3_127, wl_0_1, wl_3_128, by decide⟩
theorem wl_4_46 : (Jvm.Cond.methodLink "IntervalPackerLaw" (75 : Nat) ({ cls := "IntervalPackerModel", name := "sum", desc := "(Z)J" } : Jvm.MethodName)) ∈ zx_WS := zx_r4 (List.mem_of_getElem? (i := 46) rfl) rfl
theorem wl_4_47 : (Jvm.Cond.instanceMethod ({ cls := "IntervalPackerModel", name := "sum", desc := "(Z)J" } : Jvm.MethodName)) ∈ zx_WS := zx_r4 (List.mem_of_getElem? (i := 47) rfl) rfl
theorem wl_4_48 : (Jvm.Cond.selects "IntervalPackerModel" ({ cls := "IntervalPackerModel", name := "sum", desc := "(Z)J" } : Jvm.MethodName) ({ cls := "IntervalPackerModel", name := "sum", desc := "(Z)J" } : Jvm.MethodName)) ∈ zx_WS := zx_r4 (List.mem_of_getElem? (i := 48) rfl) rfl
theorem wl_4_49 : (Jvm.Cond.code ({ cls := "IntervalPackerModel", name := "sum", desc := "(Z)J" } : Jvm.MethodName) prog_11_method_12_code (5 : Nat) (Option.some Jvm.ClassFile.FieldType.long)) ∈ zx_WS := zx_r4 (List.mem_of_getElem? (i := 49) rfl) rfl
theorem lk_112 : zl_lk 75 1 "IntervalPackerModel" (⟨"IntervalPackerModel", "sum", "(Z)J"⟩, 8, prog_11_method_12_code, 5, (some Jvm.ClassFile.FieldType.long)) := ⟨rfl, ⟨by decide, by decide⟩, (by decide +kernel), wl_4_46, wl_4_47, wl_4_48, wl_0_10, wl_4_49, by decide⟩
set_option maxHeartbeats 4000000 in
set_option maxRecDepth 100000 in
theorem zl_sum (hF : lw_At p s m meth c b L xs) (hE : zl_E s E1 E2) (hL : L ≤ 2560) {t : Nat} (ht : t + 5 ≤ L) {r : Int64} (h1 : zx_MC l E1 12 9 [.ref 0, .int (if (xs (t + 1)) = 0 then 0 else 1)] S1 (fun v S => v = some (.long r) ∧ S = S1')) (h2 : zx_MR l E2 112 9 [.ref 0, .int (if (xs (t + 1)) = 0 then 0 else 1)] S2 (fun v S => v = some (.long r) ∧ S = S2')) (kk : zl_Z p l e s m below meth c b E1 E2 S1' S2' 536 (nI t)) : zl_Z p l e s m below meth c b E1 E2 S1 S2 496 (nI t) := by
  obtain ⟨hx, hb, hret, hml, hown, hts0, hX, hbl, hlk0, hgv⟩ := id hF
  have hts : ∀ w ∈ zx_WS, w.before #[Value.ref b] s = true := fun w h => hts0 w (List.mem_filter.mp h).1
  intro H locs ls hP1 hP2 hS hl
  by_cases hz : (xs (t + 1)) = 0
  · rw [if_pos hz] at h1 h2
    refine lv_aload_n hx hb (by decide +kernel : decode code 496 = .ok (.aload_n 1, 1)) rfl (lv_at hl 1 rfl) ?_
    refine lv_aload_n hx hb (by decide +kernel : decode code 497 = .ok (.aload_n 0, 1)) rfl (lv_at hl 0 rfl) ?_
    refine lv_iload_n hx hb (by decide +kernel : decode code 498 = .ok (.iload_n 3, 1)) rfl (lv_at hl 3 rfl) ?_
    refine lv_iconst (v := 1) hx hb (by decide +kernel : decode code 499 = .ok (.iconst 1, 1)) (by decide) ?_
    refine lv_iadd hx hb (by decide +kernel : decode code 500 = .ok (.iadd, 1)) ?_
    refine zl_ld hF hL hS 1 (kk := 1) rfl (by omega) (by decide +kernel : decode code 501 = .ok (.iaload, 1)) ?_
    refine lv_if_eq (tgt := 509) hx hb (by decide +kernel : decode code 502 = .ok (.ifCond .eq 7, 3)) (by decide) (fun _ => ?_) (fun h => absurd hz h)
    refine lv_iconst (v := 0) hx hb (by decide +kernel : decode code 509 = .ok (.iconst 0, 1)) (by decide) ?_
    refine zl_call (lay := zx_LC) (E := E1) (As0 := [.int 0]) (rest := []) hF hE.1 h1 (Nat.le_refl 9) rfl rfl rfl lk_12 hE.2.2.1 ⟨Nat.le_of_ble_eq_true rfl, Nat.le_of_ble_eq_true rfl⟩ rfl rfl (Nat.le_of_ble_eq_true rfl) (by decide +kernel : decode code 510 = .ok (.invokevirtual 71, 3)) hP1 hS hl.1 (fun v S H1 locs hq hP1 hk hS => ?_)
    obtain ⟨rfl, rfl⟩ := hq
    have hP2 := zl_kept hP2 (fun q h1 h2 => hE.2.2.2.2 q h2 h1) hk
    generalize H1 = H at hP1 hP2 hS ⊢
    refine lv_aload_n hx hb (by decide +kernel : decode code 513 = .ok (.aload_n 2, 1)) rfl (lv_at hl 2 rfl) ?_
    refine lv_aload_n hx hb (by decide +kernel : decode code 514 = .ok (.aload_n 0, 1)) rfl (lv_at hl 0 rfl) ?_
    refine lv_iload_n hx hb (by decide +kernel : decode code 515 = .ok (.iload_n 3, 1)) rfl (lv_at hl 3 rfl) ?_
    refine lv_iconst (v := 1) hx hb (by decide +kernel : decode code 516 = .ok (.iconst 1, 1)) (by decide) ?_
    refine lv_iadd hx hb (by decide +kernel : decode code 517 = .ok (.iadd, 1)) ?_
    refine zl_ld hF hL hS 1 (kk := 1) rfl (by omega) (by decide +kernel : decode code 518 = .ok (.iaload, 1)) ?_
    refine lv_if_eq (tgt := 526) hx hb (by decide +kernel : decode code 519 = .ok (.ifCond .eq 7, 3)) (by decide) (fun _ => ?_) (fun h => absurd hz h)
    refine lv_iconst (v := 0) hx hb (by decide +kernel : decode code 526 = .ok (.iconst 0, 1)) (by decide) ?_
    refine zl_call (lay := zx_LR) (E := E2) (As0 := [.int 0]) (rest := [.long r]) hF hE.2.1 h2 (Nat.le_refl 9) rfl rfl rfl lk_112 hE.2.2.2.1 ⟨Nat.le_of_ble_eq_true rfl, Nat.le_of_ble_eq_true rfl⟩ rfl rfl (Nat.le_of_ble_eq_true rfl) (by decide +kernel : decode code 527 = .ok (.invokevirtual 75, 3)) hP2 hS hl.1 (fun v S H1 locs hq hP2 hk hS => ?_)
    obtain ⟨rfl, rfl⟩ := hq
    have hP1 := zl_kept hP1 hE.2.2.2.2 hk
    generalize H1 = H at hP1 hP2 hS ⊢
    refine W.lcmp hx hb (by decide +kernel : decode code 530 = .ok (.lcmp, 1)) ?_
    exact lv_if_eq (tgt := 536) hx hb (by decide +kernel : decode code 531 = .ok (.ifCond .eq 5, 3)) (by decide) (fun _ => kk H locs ls hP1 hP2 hS hl) (fun h => absurd ((lg_cmp_eq r r).mpr rfl) h)
  · rw [if_neg hz] at h1 h2
    refine lv_aload_n hx hb (by decide +kernel : decode code 496 = .ok (.aload_n 1, 1)) rfl (lv_at hl 1 rfl) ?_
    refine lv_aload_n hx hb (by decide +kernel : decode code 497 = .ok (.aload_n 0, 1)) rfl (lv_at hl 0 rfl) ?_
    refine lv_iload_n hx hb (by decide +kernel : decode code 498 = .ok (.iload_n 3, 1)) rfl (lv_at hl 3 rfl) ?_
    refine lv_iconst (v := 1) hx hb (by decide +kernel : decode code 499 = .ok (.iconst 1, 1)) (by decide) ?_
    refine lv_iadd hx hb (by decide +kernel : decode code 500 = .ok (.iadd, 1)) ?_
    refine zl_ld hF hL hS 1 (kk := 1) rfl (by omega) (by decide +kernel : decode code 501 = .ok (.iaload, 1)) ?_
    refine lv_if_eq (tgt := 509) hx hb (by decide +kernel : decode code 502 = .ok (.ifCond .eq 7, 3)) (by decide) (fun h => absurd h hz) (fun _ => ?_)
    refine lv_iconst (v := 1) hx hb (by decide +kernel : decode code 505 = .ok (.iconst 1, 1)) (by decide) ?_
    refine lv_goto (tgt := 510) hx hb (by decide +kernel : decode code 506 = .ok (.goto 4, 3)) (by decide) ?_
    refine zl_call (lay := zx_LC) (E := E1) (As0 := [.int 1]) (rest := []) hF hE.1 h1 (Nat.le_refl 9) rfl rfl rfl lk_12 hE.2.2.1 ⟨Nat.le_of_ble_eq_true rfl, Nat.le_of_ble_eq_true rfl⟩ rfl rfl (Nat.le_of_ble_eq_true rfl) (by decide +kernel : decode code 510 = .ok (.invokevirtual 71, 3)) hP1 hS hl.1 (fun v S H1 locs hq hP1 hk hS => ?_)
    obtain ⟨rfl, rfl⟩ := hq
    have hP2 := zl_kept hP2 (fun q h1 h2 => hE.2.2.2.2 q h2 h1) hk
    generalize H1 = H at hP1 hP2 hS ⊢
    refine lv_aload_n hx hb (by decide +kernel : decode code 513 = .ok (.aload_n 2, 1)) rfl (lv_at hl 2 rfl) ?_
    refine lv_aload_n hx hb (by decide +kernel : decode code 514 = .ok (.aload_n 0, 1)) rfl (lv_at hl 0 rfl) ?_
    refine lv_iload_n hx hb (by decide +kernel : decode code 515 = .ok (.iload_n 3, 1)) rfl (lv_at hl 3 rfl) ?_
    refine lv_iconst (v := 1) hx hb (by decide +kernel : decode code 516 = .ok (.iconst 1, 1)) (by decide) ?_
    refine lv_iadd hx hb (by decide +kernel : decode code 517 = .ok (.iadd, 1)) ?_
    refine zl_ld hF hL hS 1 (kk := 1) rfl (by omega) (by decide +kernel : decode code 518 = .ok (.iaload, 1)) ?_
    refine lv_if_eq (tgt := 526) hx hb (by decide +kernel : decode code 519 = .ok (.ifCond .eq 7, 3)) (by decide) (fun h => absurd h hz) (fun _ => ?_)
    refine lv_iconst (v := 1) hx hb (by decide +kernel : decode code 522 = .ok (.iconst 1, 1)) (by decide) ?_
    refine lv_goto (tgt := 527) hx hb (by decide +kernel : decode code 523 = .ok (.goto 4, 3)) (by decide) ?_
    refine zl_call (lay := zx_LR) (E := E2) (As0 := [.int 1]) (rest := [.long r]) hF hE.2.1 h2 (Nat.le_refl 9) rfl rfl rfl lk_112 hE.2.2.2.1 ⟨Nat.le_of_ble_eq_true rfl, Nat.le_of_ble_eq_true rfl⟩ rfl rfl (Nat.le_of_ble_eq_true rfl) (by decide +kernel : decode code 527 = .ok (.invokevirtual 75, 3)) hP2 hS hl.1 (fun v S H1 locs hq hP2 hk hS => ?_)
    obtain ⟨rfl, rfl⟩ := hq
    have hP1 := zl_kept hP1 hE.2.2.2.2 hk
    generalize H1 = H at hP1 hP2 hS ⊢
    refine W.lcmp hx hb (by decide +kernel : decode code 530 = .ok (.lcmp, 1)) ?_
    exact lv_if_eq (tgt := 536) hx hb (by decide +kernel : decode code 531 = .ok (.ifCond .eq 5, 3)) (by decide) (fun _ => kk H locs ls hP1 hP2 hS hl) (fun h => absurd ((lg_cmp_eq r r).mpr rfl) h)
end ZL
