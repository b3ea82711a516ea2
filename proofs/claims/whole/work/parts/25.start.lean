/-! From the law's entry to its loop: both worlds stand -/
theorem wt_nest : (Jvm.Cond.methodLinkNest "IntervalPacker$Unpacking" (22 : Nat) ({ cls := "IntervalPacker$Cursor", name := "<init>", desc := "()V" } : Jvm.MethodName) "IntervalPacker") ∈ lw_tbl := List.mem_append_right _ (List.mem_of_getElem? (i := 172) (by decide +kernel))
theorem wt_lays : (Jvm.Cond.laysStatic "IntervalPacker" "MAGIC" "[I") ∈ lw_tbl := List.mem_append_right _ (List.mem_of_getElem? (i := 423) (by decide +kernel))
theorem zl_cls {D : va_G} {cl : List vw_C} {ts : List (ClassId × FieldType)} {s : State} (h : va_K D cl ts s) {i j : Nat} {c1 c2 : ClassId} {ty : FieldType} (hty : ty = .int ∨ ty = .long) (h1 : ts[i]? = some (c1, ty)) (h2 : ts[j]? = some (c2, ty)) : c2 = c1 := by
  have e1 := (h.2 i _ h1).2
  have e2 := (h.2 j _ h2).2
  rcases hty with rfl | rfl
  · exact Option.some.inj (Eq.trans (Eq.symm e2) e1)
  · exact Option.some.inj (Eq.trans (Eq.symm e2) e1)
theorem zl_inj {lay : List zx_C} {E : zx_E} {S : zx_S} {A : Nat → Prop} (h : va_D A (zx_w lay E S)) : zx_inj lay E ∧ ∀ q, zx_A lay E q → A q := by
  have key : ∀ i, i < lay.length → ∃ x, (zx_w lay E S)[i]? = some (E.2.1 i, x) := fun i hi => ⟨_, zx_w_at (List.getElem?_eq_getElem hi)⟩
  refine ⟨fun i j hi hj he => ?_, fun q hq => ?_⟩
  · obtain ⟨x, hx⟩ := key i hi
    obtain ⟨y, hy⟩ := key j hj
    exact h.1 i j _ _ hx hy he
  · obtain ⟨i, hi, rfl⟩ := hq
    obtain ⟨x, hx⟩ := key i hi
    exact h.2 i _ hx
theorem zl_dj {A : Nat → Prop} {ws w1 w2 : va_W} (hD : va_D A ws) (is1 is2 : List Nat) (h1 : is1.map (fun i => ws[i]?) = w1.map some) (h2 : is2.map (fun i => ws[i]?) = w2.map some) (hdis : ∀ i ∈ is1, i ∉ is2) : ∀ (k1 k2 : Nat) (x y : Nat × va_E), w1[k1]? = some x → w2[k2]? = some y → x.1 ≠ y.1 := by
  have at' : ∀ {is : List Nat} {w : va_W}, is.map (fun i => ws[i]?) = w.map some → ∀ (k : Nat) (q : Nat × va_E), w[k]? = some q → ∃ i, i ∈ is ∧ ws[i]? = some q := by
    intro is w hs k q hq
    have h1 : (is.map (fun i => ws[i]?))[k]? = some (some q) := by rw [hs, List.getElem?_map, hq]; rfl
    rw [List.getElem?_map] at h1
    cases hi : is[k]? with
    | none => rw [hi] at h1; cases h1
    | some i => rw [hi] at h1; exact ⟨i, List.mem_of_getElem? hi, Option.some.inj h1⟩
  intro k1 k2 x y hx hy he
  obtain ⟨i, hi, ei⟩ := at' h1 k1 x hx
  obtain ⟨j, hj, ej⟩ := at' h2 k2 y hy
  have := hD.1 i j x y ei ej he
  subst this
  exact hdis i hi hj
theorem wt_0_16 : (Jvm.Cond.classLink "IntervalPackerLaw" (7 : Nat) "IntervalPacker") ∈ zx_WS := zx_r0 (List.mem_of_getElem? (i := 16) rfl) rfl
theorem wt_0_17 : (Jvm.Cond.instantiable "IntervalPacker" (5 : Nat)) ∈ zx_WS := zx_r0 (List.mem_of_getElem? (i := 17) rfl) rfl
theorem wt_0_20 : (Jvm.Cond.code ({ cls := "IntervalPacker", name := "<init>", desc := "()V" } : Jvm.MethodName) prog_1_method_1_code (3 : Nat) (Option.none : Option Jvm.ClassFile.FieldType)) ∈ zx_WS := zx_r0 (List.mem_of_getElem? (i := 20) rfl) rfl
theorem wt_0_18 : (Jvm.Cond.methodLink "IntervalPackerLaw" (9 : Nat) ({ cls := "IntervalPacker", name := "<init>", desc := "()V" } : Jvm.MethodName)) ∈ zx_WS := zx_r0 (List.mem_of_getElem? (i := 18) rfl) rfl
theorem wt_0_19 : (Jvm.Cond.instanceMethod ({ cls := "IntervalPacker", name := "<init>", desc := "()V" } : Jvm.MethodName)) ∈ zx_WS := zx_r0 (List.mem_of_getElem? (i := 19) rfl) rfl
theorem wt_3_131 : (Jvm.Cond.classLink "IntervalPackerLaw" (10 : Nat) "IntervalPackerModel") ∈ zx_WS := zx_r3 (List.mem_of_getElem? (i := 131) rfl) rfl
theorem wt_3_132 : (Jvm.Cond.instantiable "IntervalPackerModel" (42 : Nat)) ∈ zx_WS := zx_r3 (List.mem_of_getElem? (i := 132) rfl) rfl
theorem wt_3_135 : (Jvm.Cond.code ({ cls := "IntervalPackerModel", name := "<init>", desc := "()V" } : Jvm.MethodName) prog_11_method_1_code (1 : Nat) (Option.none : Option Jvm.ClassFile.FieldType)) ∈ zx_WS := zx_r3 (List.mem_of_getElem? (i := 135) rfl) rfl
theorem wt_3_133 : (Jvm.Cond.methodLink "IntervalPackerLaw" (12 : Nat) ({ cls := "IntervalPackerModel", name := "<init>", desc := "()V" } : Jvm.MethodName)) ∈ zx_WS := zx_r3 (List.mem_of_getElem? (i := 133) rfl) rfl
theorem wt_3_134 : (Jvm.Cond.instanceMethod ({ cls := "IntervalPackerModel", name := "<init>", desc := "()V" } : Jvm.MethodName)) ∈ zx_WS := zx_r3 (List.mem_of_getElem? (i := 134) rfl) rfl
theorem wt_0_25 : (Jvm.Cond.instantiable "IntervalPacker$Row" (3 : Nat)) ∈ zx_WS := zx_r0 (List.mem_of_getElem? (i := 25) rfl) rfl
theorem wt_0_171 : (Jvm.Cond.instantiable "IntervalPacker$Cursor" (6 : Nat)) ∈ zx_WS := zx_r0 (List.mem_of_getElem? (i := 171) rfl) rfl
theorem wt_0_52 : (Jvm.Cond.instantiable "IntervalPacker$BitSource" (12 : Nat)) ∈ zx_WS := zx_r0 (List.mem_of_getElem? (i := 52) rfl) rfl
theorem wt_1_24 : (Jvm.Cond.instantiable "IntervalPacker$BitSink" (6 : Nat)) ∈ zx_WS := zx_r1 (List.mem_of_getElem? (i := 24) rfl) rfl
theorem wt_0_115 : (Jvm.Cond.instantiable "IntervalPacker$Model" (11 : Nat)) ∈ zx_WS := zx_r0 (List.mem_of_getElem? (i := 115) rfl) rfl
theorem wt_0_163 : (Jvm.Cond.instantiable "IntervalPacker$Unpacking" (19 : Nat)) ∈ zx_WS := zx_r0 (List.mem_of_getElem? (i := 163) rfl) rfl
theorem wt_1_22 : (Jvm.Cond.instantiable "IntervalPacker$Packing" (17 : Nat)) ∈ zx_WS := zx_r1 (List.mem_of_getElem? (i := 22) rfl) rfl
set_option maxHeartbeats 8000000 in
set_option maxRecDepth 100000 in
theorem zl_start {p : Program} {e : Env} {s : State} {m : MethodId} {below : List Frame} {meth : Method} {c : Code} (l : Launch) {b L : Nat} {xs : Nat → Int32} (hL : L ≤ 2560) (hF : lw_At p s m meth c b L xs) (hJ : ∀ E1 E2 : zx_E, ∃ Inv : Nat → zx_S → zx_S → Prop, Inv 0 (zd_rC, zd_C) ([], zd_R) ∧ ∀ (j : Nat) (S1 S2 : zx_S), 5 * j + 5 ≤ L → Inv j S1 S2 → zj l E1 E2 xs (5 * j) (Inv (j + 1)) S1 S2) : W p l e room_1 s m #[Value.ref b] below meth c s.heap [] 0 0 (lw_Z below #[Value.ref b] s) (entryFrame m ([Value.ref b] : List Value).toArray 4) := by
  obtain ⟨hx, hb, hret, hml, hown, hts0, hX, hbl, hlk0, hgv⟩ := id hF
  have hts : ∀ w ∈ zx_WS, w.before #[Value.ref b] s = true := fun w h => hts0 w (List.mem_filter.mp h).1
  have hn : va_Nw (Jvm.Cond.methodLinkNest "IntervalPacker$Unpacking" (22 : Nat) ({ cls := "IntervalPacker$Cursor", name := "<init>", desc := "()V" } : Jvm.MethodName) "IntervalPacker") s := va_Nw.of rfl (hts0 _ wt_nest)
  have hg := flat_of_before _ hgv
  have hMg : ∃ t : Nat, (Term.static zx_mgC zx_mgN zx_mgD).eval #[Value.ref b] s none [] s = some (.ref t) ∧ va_T .int t 6 (fun j => .int (ro_f j)) (zl_A s) s s.heap := by
    refine va_Tof (by decide) (hg (.arrayOf (.static "IntervalPacker" "MAGIC" "[I") .int) (by decide +kernel)) (va_eqt (hg (.eq (.length (.static "IntervalPacker" "MAGIC" "[I")) (.int 6)) (by decide +kernel))) (fun j hj => ?_) (fun a h1 h2 => Nat.not_le_of_lt h1 h2)
    match j, hj with
    | 0, _ => exact va_eqt (hg (.eq (.elem (.static "IntervalPacker" "MAGIC" "[I") (.int 0)) (.int 253)) (by decide +kernel))
    | 1, _ => exact va_eqt (hg (.eq (.elem (.static "IntervalPacker" "MAGIC" "[I") (.int 1)) (.int 55)) (by decide +kernel))
    | 2, _ => exact va_eqt (hg (.eq (.elem (.static "IntervalPacker" "MAGIC" "[I") (.int 2)) (.int 122)) (by decide +kernel))
    | 3, _ => exact va_eqt (hg (.eq (.elem (.static "IntervalPacker" "MAGIC" "[I") (.int 3)) (.int 88)) (by decide +kernel))
    | 4, _ => exact va_eqt (hg (.eq (.elem (.static "IntervalPacker" "MAGIC" "[I") (.int 4)) (.int 90)) (by decide +kernel))
    | 5, _ => exact va_eqt (hg (.eq (.elem (.static "IntervalPacker" "MAGIC" "[I") (.int 5)) (.int 0)) (by decide +kernel))
    | _ + 6, h => exact absurd h (by omega)
  obtain ⟨d0, i0, k0⟩ := u_known hts zu_P (hts _ wt_0_17)
  obtain ⟨d1, i1, k1⟩ := u_known hts zu_Row (hts _ wt_0_25)
  obtain ⟨d2, i2, k2⟩ := u_known hts zu_Cur (hts _ wt_0_171)
  obtain ⟨d3, i3, k3⟩ := u_known hts zu_Src (hts _ wt_0_52)
  obtain ⟨d4, i4, k4⟩ := u_known hts zu_Snk (hts _ wt_1_24)
  obtain ⟨d5, i5, k5⟩ := u_known hts zu_Mdl (hts _ wt_0_115)
  obtain ⟨d6, i6, k6⟩ := u_known hts zu_Unp (hts _ wt_0_163)
  obtain ⟨d7, i7, k7⟩ := u_known hts zu_Pkg (hts _ wt_1_22)
  obtain ⟨d8, i8, k8⟩ := u_known hts zu_R (hts _ wt_3_132)
  have hK0 : ∃ (dC : Nat → ClassId) (dI : Nat → Nat → Nat), va_K (dC, dI) zx_cl [] s := by
    refine ⟨fun k => ([d0, d1, d2, d3, d4, d5, d6, d7, d8] : List ClassId).getD k 0, fun k => ([i0, i1, i2, i3, i4, i5, i6, i7, i8] : List (Nat → Nat)).getD k (fun _ => 0), fun c q hq => ?_, fun k q hk => by cases hk⟩
    match c, hq with
    | 0, hq => cases hq; exact k0
    | 1, hq => cases hq; exact k1
    | 2, hq => cases hq; exact k2
    | 3, hq => cases hq; exact k3
    | 4, hq => cases hq; exact k4
    | 5, hq => cases hq; exact k5
    | 6, hq => cases hq; exact k6
    | 7, hq => cases hq; exact k7
    | 8, hq => cases hq; exact k8
    | _ + 9, hq => cases hq
  obtain ⟨dC, dI, hK⟩ := hK0
  have hA : ∀ q : Nat, s.heap.size ≤ q → zl_A s q := fun q h => h
  have hS : va_S (zl_A s) s.heap s.heap [] := va_S.rf
  have hP : va_P (dC, dI) zx_cl [] s.heap := fun k q hk => by cases hk
  have hD : va_D (zl_A s) [] := ⟨fun i j p q hi => by cases hi, fun k q hk => by cases hk⟩
  have hl := lv_entry ([.ref b]) (n := 4) (Nat.le_of_ble_eq_true rfl)
  rw [lg_entry_eq]
  generalize (lg_sl ([.ref b]) ++ List.replicate (4 - (lg_sl ([.ref b])).length) Slot.unset).toArray = ls at hl ⊢
  have hl : lv_has ls 4 [(0, .ref b)] := hl
  refine va_new (ci := 0) (fs := [.null, .null, .null, .null, .null]) (C := "IntervalPacker") (T := zt_P) (N := 5) hx hb hts zu_P zy_P zy_P_ok hown (hts _ wt_0_16) (hts _ wt_0_17) (hts _ wl_0_1) hK hP hD hS hA rfl (by decide +kernel) (Nat.le_of_ble_eq_true rfl) (Nat.le_of_ble_eq_true rfl) (by decide +kernel : decode code 0 = .ok (.new 7, 3)) (fun a0 H hP hD hS => ?_)
  have hP : va_P (dC, dI) zx_cl [(a0, .inr (0, [.null, .null, .null, .null, .null]))] H := hP
  have hD : va_D (zl_A s) [(a0, .inr (0, [.null, .null, .null, .null, .null]))] := hD
  refine W.widen (k := 1) (n := 5) (Nat.le_of_ble_eq_true rfl) (Nat.le_of_ble_eq_true rfl) ?_
  refine lv_dup hx hb (by decide +kernel : decode code 3 = .ok (.dup, 1)) rfl ?_
  have hPc := hP.sub (ws' := [(a0, .inr (0, [.null, .null, .null, .null, .null]))]) [0] rfl
  have hDc := hD.sub (ws' := [(a0, .inr (0, [.null, .null, .null, .null, .null]))]) [0] (by decide) rfl
  have hKc := hK.sub (tys' := []) [] rfl
  have hFc := va_free (wc := [(a0, .inr (0, [.null, .null, .null, .null, .null]))]) hD hS hA [0] rfl
  refine va_callv (va_runI (As := []) (rest := [.ref a0]) ⟨hx, hb, hml, hown, hts⟩ (cc_P l dC dI a0 H.size) (cwI 0 hts (zx_gin (fun w hw => (List.mem_cons.mp hw).elim (fun e => e ▸ wt_0_20) id)) rfl rfl rfl (hts _ wl_0_1) (hts _ wt_0_18) (hts _ wt_0_19) rfl ⟨by decide, by decide, by decide +kernel⟩ ⟨Nat.le_of_ble_eq_true rfl, Nat.le_of_ble_eq_true rfl⟩) ⟨fun a U g mk q => by obtain ⟨q0, q1, qP, qK, qD, qN⟩ := q; exact ⟨q0, q1, qP, va_K.moved (u := U) (U := U.calling g mk a) (Vm.Alike.refl U.vm) qK, qD, va_Nw.same rfl (u := U) (U := U.calling g mk a) rfl qN⟩, fun U hU hW => ⟨rfl, by rw [hU], by rw [hU]; exact hPc, va_K.moved hW.alike hKc, hDc.weaken (fun _ _ _ _ => trivial), va_Nw.warmM hW hn⟩⟩ rfl rfl hl.1 rfl (lv_room (Nat.le_of_ble_eq_true rfl)) (by decide +kernel : decode code 4 = .ok (.invokespecial 9, 3)) ⟨Nat.le_of_ble_eq_true rfl, Nat.le_of_ble_eq_true rfl⟩) hS (fun q _ h => hFc q h) hFc (fun u t H1 locs ht hvm _ hB hz1 hk1 hS => ?_)
  obtain ⟨q7_L0, c7_L0, q11_L0, q6_18_L0, c6_18_L0, q25_L0, q6_32_L0, c6_32_L0, q39_L0, q50_L0, q6_59_L0, c6_59_L0, q64_L0, q5_73_L0, q6_12_73_L0, c6_12_73_L0, q19_73_L0, q6_23_73_L0, c6_23_73_L0, q32_73_L0, c32_73_L0, q40_73_L0, c40_73_L0, q48_73_L0, c48_73_L0, q80_L0, q85_L0, q9_90_L0, c9_90_L0, q5_93_L0, q6_12_93_L0, c6_12_93_L0, q21_93_L0, c21_93_L0, hP1, hK1, hD1⟩ := hB
  rw [ht] at hP1
  have hK1 := va_K.moved hvm.symm hK1
  obtain ⟨hP, hD⟩ := va_join (wr := []) (w1 := [(a0, .inr (0, [.ref q11_L0, .ref q25_L0, .ref q39_L0, .ref q64_L0, .ref q80_L0])), (q7_L0, .inl (c7_L0, 8196, .inl (fun _ => 0))), (q11_L0, .inr (1, [.ref q6_18_L0, .int 0, .int 0])), (q6_18_L0, .inl (c6_18_L0, 400, .inl (fun _ => 0))), (q25_L0, .inr (1, [.ref q6_32_L0, .int 0, .int 0])), (q6_32_L0, .inl (c6_32_L0, 640, .inl (fun _ => 0))), (q39_L0, .inr (3, [.ref q7_L0, .long 0, .int 0, .ref q7_L0, .int 0, .int 0, .long 0, .int 0, .int 0, .int 0, .long (-1), .long (-1)])), (q50_L0, .inr (5, [.ref q7_L0, .ref q6_59_L0, .int 0, .int 0, .int 0, .int 0, .ref q39_L0, .int 0, .int 0, .int 0, .long 0])), (q6_59_L0, .inl (c6_59_L0, 4, .inr (.inl (fun _ => 0)))), (q64_L0, .inr (6, [.ref q5_73_L0, .ref q19_73_L0, .ref q32_73_L0, .ref q50_L0, .ref q39_L0, .ref q40_73_L0, .ref q48_73_L0, .int 0, .int 0, .int 0, .long 0, .long 0, .int 0, .int 0, .int 0, .int 0, .int 0, .int 0, .int 0])), (q5_73_L0, .inr (1, [.ref q6_12_73_L0, .int 0, .int 0])), (q6_12_73_L0, .inl (c6_12_73_L0, 400, .inl (fun _ => 0))), (q19_73_L0, .inr (2, [.ref q6_23_73_L0, .int 0, .int 0, .int 0, .int 0, .int (-1)])), (q6_23_73_L0, .inl (c6_23_73_L0, 0, .inl (fun _ => 0))), (q32_73_L0, .inl (c32_73_L0, 11, .inl (fun _ => 0))), (q40_73_L0, .inl (c40_73_L0, 40, .inr (.inl (fun _ => 0)))), (q48_73_L0, .inl (c48_73_L0, 40, .inr (.inl (fun _ => 0)))), (q85_L0, .inr (4, [.ref q7_L0, .long 0, .int 0, .ref q9_90_L0, .int 0, .int 0])), (q9_90_L0, .inl (c9_90_L0, 400, .inl (fun _ => 0))), (q80_L0, .inr (7, [.ref q5_93_L0, .ref q50_L0, .ref q85_L0, .ref q21_93_L0, .ref q5_93_L0, .int 0, .int 0, .int 0, .long 0, .int 0, .int 0, .int 0, .int 0, .int 0, .int 0, .int 0, .int 0])), (q5_93_L0, .inr (1, [.ref q6_12_93_L0, .int 0, .int 0])), (q6_12_93_L0, .inl (c6_12_93_L0, 640, .inl (fun _ => 0))), (q21_93_L0, .inl (c21_93_L0, 6, .inl (fun _ => 0)))]) hP hD [0] [] rfl rfl (by decide) (by decide) hk1 hFc hP1 hD1
  have hK := (hK.sub (tys' := []) [] rfl).app hK1
  generalize H1 = H at hP hS ⊢
  have hP : va_P (dC, dI) zx_cl [(a0, .inr (0, [.ref q11_L0, .ref q25_L0, .ref q39_L0, .ref q64_L0, .ref q80_L0])), (q7_L0, .inl (c7_L0, 8196, .inl (fun _ => 0))), (q11_L0, .inr (1, [.ref q6_18_L0, .int 0, .int 0])), (q6_18_L0, .inl (c6_18_L0, 400, .inl (fun _ => 0))), (q25_L0, .inr (1, [.ref q6_32_L0, .int 0, .int 0])), (q6_32_L0, .inl (c6_32_L0, 640, .inl (fun _ => 0))), (q39_L0, .inr (3, [.ref q7_L0, .long 0, .int 0, .ref q7_L0, .int 0, .int 0, .long 0, .int 0, .int 0, .int 0, .long (-1), .long (-1)])), (q50_L0, .inr (5, [.ref q7_L0, .ref q6_59_L0, .int 0, .int 0, .int 0, .int 0, .ref q39_L0, .int 0, .int 0, .int 0, .long 0])), (q6_59_L0, .inl (c6_59_L0, 4, .inr (.inl (fun _ => 0)))), (q64_L0, .inr (6, [.ref q5_73_L0, .ref q19_73_L0, .ref q32_73_L0, .ref q50_L0, .ref q39_L0, .ref q40_73_L0, .ref q48_73_L0, .int 0, .int 0, .int 0, .long 0, .long 0, .int 0, .int 0, .int 0, .int 0, .int 0, .int 0, .int 0])), (q5_73_L0, .inr (1, [.ref q6_12_73_L0, .int 0, .int 0])), (q6_12_73_L0, .inl (c6_12_73_L0, 400, .inl (fun _ => 0))), (q19_73_L0, .inr (2, [.ref q6_23_73_L0, .int 0, .int 0, .int 0, .int 0, .int (-1)])), (q6_23_73_L0, .inl (c6_23_73_L0, 0, .inl (fun _ => 0))), (q32_73_L0, .inl (c32_73_L0, 11, .inl (fun _ => 0))), (q40_73_L0, .inl (c40_73_L0, 40, .inr (.inl (fun _ => 0)))), (q48_73_L0, .inl (c48_73_L0, 40, .inr (.inl (fun _ => 0)))), (q85_L0, .inr (4, [.ref q7_L0, .long 0, .int 0, .ref q9_90_L0, .int 0, .int 0])), (q9_90_L0, .inl (c9_90_L0, 400, .inl (fun _ => 0))), (q80_L0, .inr (7, [.ref q5_93_L0, .ref q50_L0, .ref q85_L0, .ref q21_93_L0, .ref q5_93_L0, .int 0, .int 0, .int 0, .long 0, .int 0, .int 0, .int 0, .int 0, .int 0, .int 0, .int 0, .int 0])), (q5_93_L0, .inr (1, [.ref q6_12_93_L0, .int 0, .int 0])), (q6_12_93_L0, .inl (c6_12_93_L0, 640, .inl (fun _ => 0))), (q21_93_L0, .inl (c21_93_L0, 6, .inl (fun _ => 0)))] H := hP
  have hD : va_D (zl_A s) [(a0, .inr (0, [.ref q11_L0, .ref q25_L0, .ref q39_L0, .ref q64_L0, .ref q80_L0])), (q7_L0, .inl (c7_L0, 8196, .inl (fun _ => 0))), (q11_L0, .inr (1, [.ref q6_18_L0, .int 0, .int 0])), (q6_18_L0, .inl (c6_18_L0, 400, .inl (fun _ => 0))), (q25_L0, .inr (1, [.ref q6_32_L0, .int 0, .int 0])), (q6_32_L0, .inl (c6_32_L0, 640, .inl (fun _ => 0))), (q39_L0, .inr (3, [.ref q7_L0, .long 0, .int 0, .ref q7_L0, .int 0, .int 0, .long 0, .int 0, .int 0, .int 0, .long (-1), .long (-1)])), (q50_L0, .inr (5, [.ref q7_L0, .ref q6_59_L0, .int 0, .int 0, .int 0, .int 0, .ref q39_L0, .int 0, .int 0, .int 0, .long 0])), (q6_59_L0, .inl (c6_59_L0, 4, .inr (.inl (fun _ => 0)))), (q64_L0, .inr (6, [.ref q5_73_L0, .ref q19_73_L0, .ref q32_73_L0, .ref q50_L0, .ref q39_L0, .ref q40_73_L0, .ref q48_73_L0, .int 0, .int 0, .int 0, .long 0, .long 0, .int 0, .int 0, .int 0, .int 0, .int 0, .int 0, .int 0])), (q5_73_L0, .inr (1, [.ref q6_12_73_L0, .int 0, .int 0])), (q6_12_73_L0, .inl (c6_12_73_L0, 400, .inl (fun _ => 0))), (q19_73_L0, .inr (2, [.ref q6_23_73_L0, .int 0, .int 0, .int 0, .int 0, .int (-1)])), (q6_23_73_L0, .inl (c6_23_73_L0, 0, .inl (fun _ => 0))), (q32_73_L0, .inl (c32_73_L0, 11, .inl (fun _ => 0))), (q40_73_L0, .inl (c40_73_L0, 40, .inr (.inl (fun _ => 0)))), (q48_73_L0, .inl (c48_73_L0, 40, .inr (.inl (fun _ => 0)))), (q85_L0, .inr (4, [.ref q7_L0, .long 0, .int 0, .ref q9_90_L0, .int 0, .int 0])), (q9_90_L0, .inl (c9_90_L0, 400, .inl (fun _ => 0))), (q80_L0, .inr (7, [.ref q5_93_L0, .ref q50_L0, .ref q85_L0, .ref q21_93_L0, .ref q5_93_L0, .int 0, .int 0, .int 0, .long 0, .int 0, .int 0, .int 0, .int 0, .int 0, .int 0, .int 0, .int 0])), (q5_93_L0, .inr (1, [.ref q6_12_93_L0, .int 0, .int 0])), (q6_12_93_L0, .inl (c6_12_93_L0, 640, .inl (fun _ => 0))), (q21_93_L0, .inl (c21_93_L0, 6, .inl (fun _ => 0)))] := hD
  have hK : va_K (dC, dI) zx_cl [(c7_L0, .int), (c6_18_L0, .int), (c6_32_L0, .int), (c6_59_L0, .long), (c6_12_73_L0, .int), (c6_23_73_L0, .int), (c32_73_L0, .int), (c40_73_L0, .long), (c48_73_L0, .long), (c9_90_L0, .int), (c6_12_93_L0, .int), (c21_93_L0, .int)] s := hK
  refine W.widen (k := 23) (n := 10865) (Nat.le_of_ble_eq_true rfl) (Nat.le_of_ble_eq_true rfl) ?_
  refine lv_astore_n (lv' := [(1, .ref a0), (0, .ref b)]) hx hb (by decide +kernel : decode code 7 = .ok (.astore_n 1, 1)) rfl hl (by decide) rfl (fun ls hl => ?_)
  have hl := lv_sub (l' := [(0, .ref b), (1, .ref a0)]) hl [1, 0] rfl
  refine va_new (ci := 8) (fs := [.null, .int 0, .null, .int 0, .null, .int 0, .null, .int 0, .null, .int 0, .int 0, .int 0, .int 0, .long 0, .long 0, .long 0, .long 0, .long 0, .long 0, .int 0, .int 0, .int 0, .int 0, .int 0, .null, .int 0, .int 0, .int 0, .int 0, .int 0, .int 0, .int 0, .int 0, .null, .null, .int 0, .int 0, .int 0, .int 0, .long 0, .long 0, .null]) (C := "IntervalPackerModel") (T := zt_R) (N := 42) hx hb hts zu_R zy_R zy_R_ok hown (hts _ wt_3_131) (hts _ wt_3_132) (hts _ wl_0_10) hK hP hD hS hA rfl (by decide +kernel) (Nat.le_of_ble_eq_true rfl) (Nat.le_of_ble_eq_true rfl) (by decide +kernel : decode code 8 = .ok (.new 10, 3)) (fun a8 H hP hD hS => ?_)
  have hP : va_P (dC, dI) zx_cl [(a0, .inr (0, [.ref q11_L0, .ref q25_L0, .ref q39_L0, .ref q64_L0, .ref q80_L0])), (q7_L0, .inl (c7_L0, 8196, .inl (fun _ => 0))), (q11_L0, .inr (1, [.ref q6_18_L0, .int 0, .int 0])), (q6_18_L0, .inl (c6_18_L0, 400, .inl (fun _ => 0))), (q25_L0, .inr (1, [.ref q6_32_L0, .int 0, .int 0])), (q6_32_L0, .inl (c6_32_L0, 640, .inl (fun _ => 0))), (q39_L0, .inr (3, [.ref q7_L0, .long 0, .int 0, .ref q7_L0, .int 0, .int 0, .long 0, .int 0, .int 0, .int 0, .long (-1), .long (-1)])), (q50_L0, .inr (5, [.ref q7_L0, .ref q6_59_L0, .int 0, .int 0, .int 0, .int 0, .ref q39_L0, .int 0, .int 0, .int 0, .long 0])), (q6_59_L0, .inl (c6_59_L0, 4, .inr (.inl (fun _ => 0)))), (q64_L0, .inr (6, [.ref q5_73_L0, .ref q19_73_L0, .ref q32_73_L0, .ref q50_L0, .ref q39_L0, .ref q40_73_L0, .ref q48_73_L0, .int 0, .int 0, .int 0, .long 0, .long 0, .int 0, .int 0, .int 0, .int 0, .int 0, .int 0, .int 0])), (q5_73_L0, .inr (1, [.ref q6_12_73_L0, .int 0, .int 0])), (q6_12_73_L0, .inl (c6_12_73_L0, 400, .inl (fun _ => 0))), (q19_73_L0, .inr (2, [.ref q6_23_73_L0, .int 0, .int 0, .int 0, .int 0, .int (-1)])), (q6_23_73_L0, .inl (c6_23_73_L0, 0, .inl (fun _ => 0))), (q32_73_L0, .inl (c32_73_L0, 11, .inl (fun _ => 0))), (q40_73_L0, .inl (c40_73_L0, 40, .inr (.inl (fun _ => 0)))), (q48_73_L0, .inl (c48_73_L0, 40, .inr (.inl (fun _ => 0)))), (q85_L0, .inr (4, [.ref q7_L0, .long 0, .int 0, .ref q9_90_L0, .int 0, .int 0])), (q9_90_L0, .inl (c9_90_L0, 400, .inl (fun _ => 0))), (q80_L0, .inr (7, [.ref q5_93_L0, .ref q50_L0, .ref q85_L0, .ref q21_93_L0, .ref q5_93_L0, .int 0, .int 0, .int 0, .long 0, .int 0, .int 0, .int 0, .int 0, .int 0, .int 0, .int 0, .int 0])), (q5_93_L0, .inr (1, [.ref q6_12_93_L0, .int 0, .int 0])), (q6_12_93_L0, .inl (c6_12_93_L0, 640, .inl (fun _ => 0))), (q21_93_L0, .inl (c21_93_L0, 6, .inl (fun _ => 0))), (a8, .inr (8, [.null, .int 0, .null, .int 0, .null, .int 0, .null, .int 0, .null, .int 0, .int 0, .int 0, .int 0, .long 0, .long 0, .long 0, .long 0, .long 0, .long 0, .int 0, .int 0, .int 0, .int 0, .int 0, .null, .int 0, .int 0, .int 0, .int 0, .int 0, .int 0, .int 0, .int 0, .null, .null, .int 0, .int 0, .int 0, .int 0, .long 0, .long 0, .null]))] H := hP
  have hD : va_D (zl_A s) [(a0, .inr (0, [.ref q11_L0, .ref q25_L0, .ref q39_L0, .ref q64_L0, .ref q80_L0])), (q7_L0, .inl (c7_L0, 8196, .inl (fun _ => 0))), (q11_L0, .inr (1, [.ref q6_18_L0, .int 0, .int 0])), (q6_18_L0, .inl (c6_18_L0, 400, .inl (fun _ => 0))), (q25_L0, .inr (1, [.ref q6_32_L0, .int 0, .int 0])), (q6_32_L0, .inl (c6_32_L0, 640, .inl (fun _ => 0))), (q39_L0, .inr (3, [.ref q7_L0, .long 0, .int 0, .ref q7_L0, .int 0, .int 0, .long 0, .int 0, .int 0, .int 0, .long (-1), .long (-1)])), (q50_L0, .inr (5, [.ref q7_L0, .ref q6_59_L0, .int 0, .int 0, .int 0, .int 0, .ref q39_L0, .int 0, .int 0, .int 0, .long 0])), (q6_59_L0, .inl (c6_59_L0, 4, .inr (.inl (fun _ => 0)))), (q64_L0, .inr (6, [.ref q5_73_L0, .ref q19_73_L0, .ref q32_73_L0, .ref q50_L0, .ref q39_L0, .ref q40_73_L0, .ref q48_73_L0, .int 0, .int 0, .int 0, .long 0, .long 0, .int 0, .int 0, .int 0, .int 0, .int 0, .int 0, .int 0])), (q5_73_L0, .inr (1, [.ref q6_12_73_L0, .int 0, .int 0])), (q6_12_73_L0, .inl (c6_12_73_L0, 400, .inl (fun _ => 0))), (q19_73_L0, .inr (2, [.ref q6_23_73_L0, .int 0, .int 0, .int 0, .int 0, .int (-1)])), (q6_23_73_L0, .inl (c6_23_73_L0, 0, .inl (fun _ => 0))), (q32_73_L0, .inl (c32_73_L0, 11, .inl (fun _ => 0))), (q40_73_L0, .inl (c40_73_L0, 40, .inr (.inl (fun _ => 0)))), (q48_73_L0, .inl (c48_73_L0, 40, .inr (.inl (fun _ => 0)))), (q85_L0, .inr (4, [.ref q7_L0, .long 0, .int 0, .ref q9_90_L0, .int 0, .int 0])), (q9_90_L0, .inl (c9_90_L0, 400, .inl (fun _ => 0))), (q80_L0, .inr (7, [.ref q5_93_L0, .ref q50_L0, .ref q85_L0, .ref q21_93_L0, .ref q5_93_L0, .int 0, .int 0, .int 0, .long 0, .int 0, .int 0, .int 0, .int 0, .int 0, .int 0, .int 0, .int 0])), (q5_93_L0, .inr (1, [.ref q6_12_93_L0, .int 0, .int 0])), (q6_12_93_L0, .inl (c6_12_93_L0, 640, .inl (fun _ => 0))), (q21_93_L0, .inl (c21_93_L0, 6, .inl (fun _ => 0))), (a8, .inr (8, [.null, .int 0, .null, .int 0, .null, .int 0, .null, .int 0, .null, .int 0, .int 0, .int 0, .int 0, .long 0, .long 0, .long 0, .long 0, .long 0, .long 0, .int 0, .int 0, .int 0, .int 0, .int 0, .null, .int 0, .int 0, .int 0, .int 0, .int 0, .int 0, .int 0, .int 0, .null, .null, .int 0, .int 0, .int 0, .int 0, .long 0, .long 0, .null]))] := hD
  refine W.widen (k := 24) (n := 10907) (Nat.le_of_ble_eq_true rfl) (Nat.le_of_ble_eq_true rfl) ?_
  refine lv_dup hx hb (by decide +kernel : decode code 11 = .ok (.dup, 1)) rfl ?_
  have hPc := hP.sub (ws' := [(a8, .inr (8, [.null, .int 0, .null, .int 0, .null, .int 0, .null, .int 0, .null, .int 0, .int 0, .int 0, .int 0, .long 0, .long 0, .long 0, .long 0, .long 0, .long 0, .int 0, .int 0, .int 0, .int 0, .int 0, .null, .int 0, .int 0, .int 0, .int 0, .int 0, .int 0, .int 0, .int 0, .null, .null, .int 0, .int 0, .int 0, .int 0, .long 0, .long 0, .null]))]) [23] rfl
  have hDc := hD.sub (ws' := [(a8, .inr (8, [.null, .int 0, .null, .int 0, .null, .int 0, .null, .int 0, .null, .int 0, .int 0, .int 0, .int 0, .long 0, .long 0, .long 0, .long 0, .long 0, .long 0, .int 0, .int 0, .int 0, .int 0, .int 0, .null, .int 0, .int 0, .int 0, .int 0, .int 0, .int 0, .int 0, .int 0, .null, .null, .int 0, .int 0, .int 0, .int 0, .long 0, .long 0, .null]))]) [23] (by decide) rfl
  have hKc := hK.sub (tys' := []) [] rfl
  have hFc := va_free (wc := [(a8, .inr (8, [.null, .int 0, .null, .int 0, .null, .int 0, .null, .int 0, .null, .int 0, .int 0, .int 0, .int 0, .long 0, .long 0, .long 0, .long 0, .long 0, .long 0, .int 0, .int 0, .int 0, .int 0, .int 0, .null, .int 0, .int 0, .int 0, .int 0, .int 0, .int 0, .int 0, .int 0, .null, .null, .int 0, .int 0, .int 0, .int 0, .long 0, .long 0, .null]))]) hD hS hA [23] rfl
  refine va_callv (va_runI (As := []) (rest := [.ref a8]) ⟨hx, hb, hml, hown, hts⟩ (cc_R l dC dI a8 H.size) (cwI 0 hts (zx_gin (fun w hw => (List.mem_cons.mp hw).elim (fun e => e ▸ wt_3_135) id)) rfl rfl rfl (hts _ wl_0_10) (hts _ wt_3_133) (hts _ wt_3_134) rfl ⟨by decide, by decide, by decide +kernel⟩ ⟨Nat.le_of_ble_eq_true rfl, Nat.le_of_ble_eq_true rfl⟩) ⟨fun a U g mk q => by obtain ⟨q0, q1, qP, qK, qD⟩ := q; exact ⟨q0, q1, qP, va_K.moved (u := U) (U := U.calling g mk a) (Vm.Alike.refl U.vm) qK, qD⟩, fun U hU hW => ⟨rfl, by rw [hU], by rw [hU]; exact hPc, va_K.moved hW.alike hKc, hDc.weaken (fun _ _ _ _ => trivial)⟩⟩ rfl rfl hl.1 rfl (lv_room (Nat.le_of_ble_eq_true rfl)) (by decide +kernel : decode code 12 = .ok (.invokespecial 12, 3)) ⟨Nat.le_of_ble_eq_true rfl, Nat.le_of_ble_eq_true rfl⟩) hS (fun q _ h => hFc q h) hFc (fun u t H1 locs ht hvm _ hB hz1 hk1 hS => ?_)
  obtain ⟨q8_L8, c8_L8, q17_L8, c17_L8, q26_L8, c26_L8, q35_L8, c35_L8, q44_L8, c44_L8, q53_L8, c53_L8, q66_L8, c66_L8, q74_L8, c74_L8, q96_L8, c96_L8, hP1, hK1, hD1⟩ := hB
  rw [ht] at hP1
  have hK1 := va_K.moved hvm.symm hK1
  obtain ⟨hP, hD⟩ := va_join (wr := [(a0, .inr (0, [.ref q11_L0, .ref q25_L0, .ref q39_L0, .ref q64_L0, .ref q80_L0])), (q7_L0, .inl (c7_L0, 8196, .inl (fun _ => 0))), (q11_L0, .inr (1, [.ref q6_18_L0, .int 0, .int 0])), (q6_18_L0, .inl (c6_18_L0, 400, .inl (fun _ => 0))), (q25_L0, .inr (1, [.ref q6_32_L0, .int 0, .int 0])), (q6_32_L0, .inl (c6_32_L0, 640, .inl (fun _ => 0))), (q39_L0, .inr (3, [.ref q7_L0, .long 0, .int 0, .ref q7_L0, .int 0, .int 0, .long 0, .int 0, .int 0, .int 0, .long (-1), .long (-1)])), (q50_L0, .inr (5, [.ref q7_L0, .ref q6_59_L0, .int 0, .int 0, .int 0, .int 0, .ref q39_L0, .int 0, .int 0, .int 0, .long 0])), (q6_59_L0, .inl (c6_59_L0, 4, .inr (.inl (fun _ => 0)))), (q64_L0, .inr (6, [.ref q5_73_L0, .ref q19_73_L0, .ref q32_73_L0, .ref q50_L0, .ref q39_L0, .ref q40_73_L0, .ref q48_73_L0, .int 0, .int 0, .int 0, .long 0, .long 0, .int 0, .int 0, .int 0, .int 0, .int 0, .int 0, .int 0])), (q5_73_L0, .inr (1, [.ref q6_12_73_L0, .int 0, .int 0])), (q6_12_73_L0, .inl (c6_12_73_L0, 400, .inl (fun _ => 0))), (q19_73_L0, .inr (2, [.ref q6_23_73_L0, .int 0, .int 0, .int 0, .int 0, .int (-1)])), (q6_23_73_L0, .inl (c6_23_73_L0, 0, .inl (fun _ => 0))), (q32_73_L0, .inl (c32_73_L0, 11, .inl (fun _ => 0))), (q40_73_L0, .inl (c40_73_L0, 40, .inr (.inl (fun _ => 0)))), (q48_73_L0, .inl (c48_73_L0, 40, .inr (.inl (fun _ => 0)))), (q85_L0, .inr (4, [.ref q7_L0, .long 0, .int 0, .ref q9_90_L0, .int 0, .int 0])), (q9_90_L0, .inl (c9_90_L0, 400, .inl (fun _ => 0))), (q80_L0, .inr (7, [.ref q5_93_L0, .ref q50_L0, .ref q85_L0, .ref q21_93_L0, .ref q5_93_L0, .int 0, .int 0, .int 0, .long 0, .int 0, .int 0, .int 0, .int 0, .int 0, .int 0, .int 0, .int 0])), (q5_93_L0, .inr (1, [.ref q6_12_93_L0, .int 0, .int 0])), (q6_12_93_L0, .inl (c6_12_93_L0, 640, .inl (fun _ => 0))), (q21_93_L0, .inl (c21_93_L0, 6, .inl (fun _ => 0)))]) (w1 := [(a8, .inr (8, [.ref q8_L8, .int 0, .ref q17_L8, .int 0, .ref q26_L8, .int 0, .ref q35_L8, .int 0, .ref q44_L8, .int 0, .int 0, .int 0, .int 0, .long 0, .long 0, .long 0, .long 0, .long 0, .long 0, .int 0, .int 0, .int 0, .int 0, .int 0, .ref q53_L8, .int 0, .int 0, .int 0, .int 0, .int 0, .int (-1), .int 0, .int 0, .ref q66_L8, .ref q74_L8, .int 0, .int 0, .int 0, .int 0, .long (-1), .long (-1), .ref q96_L8])), (q8_L8, .inl (c8_L8, 400, .inl (fun _ => 0))), (q17_L8, .inl (c17_L8, 640, .inl (fun _ => 0))), (q26_L8, .inl (c26_L8, 400, .inl (fun _ => 0))), (q35_L8, .inl (c35_L8, 640, .inl (fun _ => 0))), (q44_L8, .inl (c44_L8, 8328, .inl (fun _ => 0))), (q53_L8, .inl (c53_L8, 400, .inl (fun _ => 0))), (q66_L8, .inl (c66_L8, 48, .inl (fun _ => 0))), (q74_L8, .inl (c74_L8, 48, .inl (fun _ => 0))), (q96_L8, .inl (c96_L8, 11, .inl (fun _ => 0)))]) hP hD [23] [0, 1, 2, 3, 4, 5, 6, 7, 8, 9, 10, 11, 12, 13, 14, 15, 16, 17, 18, 19, 20, 21, 22] rfl rfl (by decide) (by decide) hk1 hFc hP1 hD1
  have hK := (hK.sub (tys' := [(c7_L0, .int), (c6_18_L0, .int), (c6_32_L0, .int), (c6_59_L0, .long), (c6_12_73_L0, .int), (c6_23_73_L0, .int), (c32_73_L0, .int), (c40_73_L0, .long), (c48_73_L0, .long), (c9_90_L0, .int), (c6_12_93_L0, .int), (c21_93_L0, .int)]) [0, 1, 2, 3, 4, 5, 6, 7, 8, 9, 10, 11] rfl).app hK1
  generalize H1 = H at hP hS ⊢
  have hP : va_P (dC, dI) zx_cl [(a0, .inr (0, [.ref q11_L0, .ref q25_L0, .ref q39_L0, .ref q64_L0, .ref q80_L0])), (q7_L0, .inl (c7_L0, 8196, .inl (fun _ => 0))), (q11_L0, .inr (1, [.ref q6_18_L0, .int 0, .int 0])), (q6_18_L0, .inl (c6_18_L0, 400, .inl (fun _ => 0))), (q25_L0, .inr (1, [.ref q6_32_L0, .int 0, .int 0])), (q6_32_L0, .inl (c6_32_L0, 640, .inl (fun _ => 0))), (q39_L0, .inr (3, [.ref q7_L0, .long 0, .int 0, .ref q7_L0, .int 0, .int 0, .long 0, .int 0, .int 0, .int 0, .long (-1), .long (-1)])), (q50_L0, .inr (5, [.ref q7_L0, .ref q6_59_L0, .int 0, .int 0, .int 0, .int 0, .ref q39_L0, .int 0, .int 0, .int 0, .long 0])), (q6_59_L0, .inl (c6_59_L0, 4, .inr (.inl (fun _ => 0)))), (q64_L0, .inr (6, [.ref q5_73_L0, .ref q19_73_L0, .ref q32_73_L0, .ref q50_L0, .ref q39_L0, .ref q40_73_L0, .ref q48_73_L0, .int 0, .int 0, .int 0, .long 0, .long 0, .int 0, .int 0, .int 0, .int 0, .int 0, .int 0, .int 0])), (q5_73_L0, .inr (1, [.ref q6_12_73_L0, .int 0, .int 0])), (q6_12_73_L0, .inl (c6_12_73_L0, 400, .inl (fun _ => 0))), (q19_73_L0, .inr (2, [.ref q6_23_73_L0, .int 0, .int 0, .int 0, .int 0, .int (-1)])), (q6_23_73_L0, .inl (c6_23_73_L0, 0, .inl (fun _ => 0))), (q32_73_L0, .inl (c32_73_L0, 11, .inl (fun _ => 0))), (q40_73_L0, .inl (c40_73_L0, 40, .inr (.inl (fun _ => 0)))), (q48_73_L0, .inl (c48_73_L0, 40, .inr (.inl (fun _ => 0)))), (q85_L0, .inr (4, [.ref q7_L0, .long 0, .int 0, .ref q9_90_L0, .int 0, .int 0])), (q9_90_L0, .inl (c9_90_L0, 400, .inl (fun _ => 0))), (q80_L0, .inr (7, [.ref q5_93_L0, .ref q50_L0, .ref q85_L0, .ref q21_93_L0, .ref q5_93_L0, .int 0, .int 0, .int 0, .long 0, .int 0, .int 0, .int 0, .int 0, .int 0, .int 0, .int 0, .int 0])), (q5_93_L0, .inr (1, [.ref q6_12_93_L0, .int 0, .int 0])), (q6_12_93_L0, .inl (c6_12_93_L0, 640, .inl (fun _ => 0))), (q21_93_L0, .inl (c21_93_L0, 6, .inl (fun _ => 0))), (a8, .inr (8, [.ref q8_L8, .int 0, .ref q17_L8, .int 0, .ref q26_L8, .int 0, .ref q35_L8, .int 0, .ref q44_L8, .int 0, .int 0, .int 0, .int 0, .long 0, .long 0, .long 0, .long 0, .long 0, .long 0, .int 0, .int 0, .int 0, .int 0, .int 0, .ref q53_L8, .int 0, .int 0, .int 0, .int 0, .int 0, .int (-1), .int 0, .int 0, .ref q66_L8, .ref q74_L8, .int 0, .int 0, .int 0, .int 0, .long (-1), .long (-1), .ref q96_L8])), (q8_L8, .inl (c8_L8, 400, .inl (fun _ => 0))), (q17_L8, .inl (c17_L8, 640, .inl (fun _ => 0))), (q26_L8, .inl (c26_L8, 400, .inl (fun _ => 0))), (q35_L8, .inl (c35_L8, 640, .inl (fun _ => 0))), (q44_L8, .inl (c44_L8, 8328, .inl (fun _ => 0))), (q53_L8, .inl (c53_L8, 400, .inl (fun _ => 0))), (q66_L8, .inl (c66_L8, 48, .inl (fun _ => 0))), (q74_L8, .inl (c74_L8, 48, .inl (fun _ => 0))), (q96_L8, .inl (c96_L8, 11, .inl (fun _ => 0)))] H := hP
  have hD : va_D (zl_A s) [(a0, .inr (0, [.ref q11_L0, .ref q25_L0, .ref q39_L0, .ref q64_L0, .ref q80_L0])), (q7_L0, .inl (c7_L0, 8196, .inl (fun _ => 0))), (q11_L0, .inr (1, [.ref q6_18_L0, .int 0, .int 0])), (q6_18_L0, .inl (c6_18_L0, 400, .inl (fun _ => 0))), (q25_L0, .inr (1, [.ref q6_32_L0, .int 0, .int 0])), (q6_32_L0, .inl (c6_32_L0, 640, .inl (fun _ => 0))), (q39_L0, .inr (3, [.ref q7_L0, .long 0, .int 0, .ref q7_L0, .int 0, .int 0, .long 0, .int 0, .int 0, .int 0, .long (-1), .long (-1)])), (q50_L0, .inr (5, [.ref q7_L0, .ref q6_59_L0, .int 0, .int 0, .int 0, .int 0, .ref q39_L0, .int 0, .int 0, .int 0, .long 0])), (q6_59_L0, .inl (c6_59_L0, 4, .inr (.inl (fun _ => 0)))), (q64_L0, .inr (6, [.ref q5_73_L0, .ref q19_73_L0, .ref q32_73_L0, .ref q50_L0, .ref q39_L0, .ref q40_73_L0, .ref q48_73_L0, .int 0, .int 0, .int 0, .long 0, .long 0, .int 0, .int 0, .int 0, .int 0, .int 0, .int 0, .int 0])), (q5_73_L0, .inr (1, [.ref q6_12_73_L0, .int 0, .int 0])), (q6_12_73_L0, .inl (c6_12_73_L0, 400, .inl (fun _ => 0))), (q19_73_L0, .inr (2, [.ref q6_23_73_L0, .int 0, .int 0, .int 0, .int 0, .int (-1)])), (q6_23_73_L0, .inl (c6_23_73_L0, 0, .inl (fun _ => 0))), (q32_73_L0, .inl (c32_73_L0, 11, .inl (fun _ => 0))), (q40_73_L0, .inl (c40_73_L0, 40, .inr (.inl (fun _ => 0)))), (q48_73_L0, .inl (c48_73_L0, 40, .inr (.inl (fun _ => 0)))), (q85_L0, .inr (4, [.ref q7_L0, .long 0, .int 0, .ref q9_90_L0, .int 0, .int 0])), (q9_90_L0, .inl (c9_90_L0, 400, .inl (fun _ => 0))), (q80_L0, .inr (7, [.ref q5_93_L0, .ref q50_L0, .ref q85_L0, .ref q21_93_L0, .ref q5_93_L0, .int 0, .int 0, .int 0, .long 0, .int 0, .int 0, .int 0, .int 0, .int 0, .int 0, .int 0, .int 0])), (q5_93_L0, .inr (1, [.ref q6_12_93_L0, .int 0, .int 0])), (q6_12_93_L0, .inl (c6_12_93_L0, 640, .inl (fun _ => 0))), (q21_93_L0, .inl (c21_93_L0, 6, .inl (fun _ => 0))), (a8, .inr (8, [.ref q8_L8, .int 0, .ref q17_L8, .int 0, .ref q26_L8, .int 0, .ref q35_L8, .int 0, .ref q44_L8, .int 0, .int 0, .int 0, .int 0, .long 0, .long 0, .long 0, .long 0, .long 0, .long 0, .int 0, .int 0, .int 0, .int 0, .int 0, .ref q53_L8, .int 0, .int 0, .int 0, .int 0, .int 0, .int (-1), .int 0, .int 0, .ref q66_L8, .ref q74_L8, .int 0, .int 0, .int 0, .int 0, .long (-1), .long (-1), .ref q96_L8])), (q8_L8, .inl (c8_L8, 400, .inl (fun _ => 0))), (q17_L8, .inl (c17_L8, 640, .inl (fun _ => 0))), (q26_L8, .inl (c26_L8, 400, .inl (fun _ => 0))), (q35_L8, .inl (c35_L8, 640, .inl (fun _ => 0))), (q44_L8, .inl (c44_L8, 8328, .inl (fun _ => 0))), (q53_L8, .inl (c53_L8, 400, .inl (fun _ => 0))), (q66_L8, .inl (c66_L8, 48, .inl (fun _ => 0))), (q74_L8, .inl (c74_L8, 48, .inl (fun _ => 0))), (q96_L8, .inl (c96_L8, 11, .inl (fun _ => 0)))] := hD
  have hK : va_K (dC, dI) zx_cl [(c7_L0, .int), (c6_18_L0, .int), (c6_32_L0, .int), (c6_59_L0, .long), (c6_12_73_L0, .int), (c6_23_73_L0, .int), (c32_73_L0, .int), (c40_73_L0, .long), (c48_73_L0, .long), (c9_90_L0, .int), (c6_12_93_L0, .int), (c21_93_L0, .int), (c8_L8, .int), (c17_L8, .int), (c26_L8, .int), (c35_L8, .int), (c44_L8, .int), (c53_L8, .int), (c66_L8, .int), (c74_L8, .int), (c96_L8, .int)] s := hK
  refine W.widen (k := 33) (n := 21822) (Nat.le_of_ble_eq_true rfl) (Nat.le_of_ble_eq_true rfl) ?_
  refine lv_astore_n (lv' := [(2, .ref a8), (0, .ref b), (1, .ref a0)]) hx hb (by decide +kernel : decode code 15 = .ok (.astore_n 2, 1)) rfl hl (by decide) rfl (fun ls hl => ?_)
  have hl := lv_sub (l' := [(0, .ref b), (1, .ref a0), (2, .ref a8)]) hl [1, 2, 0] rfl
  refine lv_iconst (v := 0) hx hb (by decide +kernel : decode code 16 = .ok (.iconst 0, 1)) (by decide) ?_
  refine lv_istore_n (lv' := [(3, .int 0), (0, .ref b), (1, .ref a0), (2, .ref a8)]) hx hb (by decide +kernel : decode code 17 = .ok (.istore_n 3, 1)) rfl hl (by decide) rfl (fun ls hl => ?_)
  have hl := lv_sub (l' := [(0, .ref b), (1, .ref a0), (2, .ref a8), (3, .int 0)]) hl [1, 2, 3, 0] rfl
  have e1 : c6_18_L0 = c7_L0 := zl_cls hK (i := 0) (j := 1) (Or.inl rfl) rfl rfl
  have e2 : c6_32_L0 = c7_L0 := zl_cls hK (i := 0) (j := 2) (Or.inl rfl) rfl rfl
  have e4 : c6_12_73_L0 = c7_L0 := zl_cls hK (i := 0) (j := 4) (Or.inl rfl) rfl rfl
  have e5 : c6_23_73_L0 = c7_L0 := zl_cls hK (i := 0) (j := 5) (Or.inl rfl) rfl rfl
  have e6 : c32_73_L0 = c7_L0 := zl_cls hK (i := 0) (j := 6) (Or.inl rfl) rfl rfl
  have e9 : c9_90_L0 = c7_L0 := zl_cls hK (i := 0) (j := 9) (Or.inl rfl) rfl rfl
  have e10 : c6_12_93_L0 = c7_L0 := zl_cls hK (i := 0) (j := 10) (Or.inl rfl) rfl rfl
  have e11 : c21_93_L0 = c7_L0 := zl_cls hK (i := 0) (j := 11) (Or.inl rfl) rfl rfl
  have e12 : c8_L8 = c7_L0 := zl_cls hK (i := 0) (j := 12) (Or.inl rfl) rfl rfl
  have e13 : c17_L8 = c7_L0 := zl_cls hK (i := 0) (j := 13) (Or.inl rfl) rfl rfl
  have e14 : c26_L8 = c7_L0 := zl_cls hK (i := 0) (j := 14) (Or.inl rfl) rfl rfl
  have e15 : c35_L8 = c7_L0 := zl_cls hK (i := 0) (j := 15) (Or.inl rfl) rfl rfl
  have e16 : c44_L8 = c7_L0 := zl_cls hK (i := 0) (j := 16) (Or.inl rfl) rfl rfl
  have e17 : c53_L8 = c7_L0 := zl_cls hK (i := 0) (j := 17) (Or.inl rfl) rfl rfl
  have e18 : c66_L8 = c7_L0 := zl_cls hK (i := 0) (j := 18) (Or.inl rfl) rfl rfl
  have e19 : c74_L8 = c7_L0 := zl_cls hK (i := 0) (j := 19) (Or.inl rfl) rfl rfl
  have e20 : c96_L8 = c7_L0 := zl_cls hK (i := 0) (j := 20) (Or.inl rfl) rfl rfl
  subst e1
  subst e2
  subst e4
  subst e5
  subst e6
  subst e9
  subst e10
  subst e11
  subst e12
  subst e13
  subst e14
  subst e15
  subst e16
  subst e17
  subst e18
  subst e19
  subst e20
  have e7 : c40_73_L0 = c6_59_L0 := zl_cls hK (i := 3) (j := 7) (Or.inr rfl) rfl rfl
  have e8 : c48_73_L0 = c6_59_L0 := zl_cls hK (i := 3) (j := 8) (Or.inr rfl) rfl rfl
  subst e7
  subst e8
  obtain ⟨tM, hM0, hT0⟩ := hMg
  have hP1 : va_P (dC, dI) zx_cl (zx_w zx_LC (zE_C (dC, dI) a0 q11_L0 q6_18_L0 q25_L0 q6_32_L0 q39_L0 q7_L0 q50_L0 q6_59_L0 q64_L0 q5_73_L0 q6_12_73_L0 q19_73_L0 q6_23_73_L0 q32_73_L0 q40_73_L0 q48_73_L0 q80_L0 q5_93_L0 q6_12_93_L0 q85_L0 q9_90_L0 q21_93_L0 tM c7_L0 c6_59_L0) (zd_rC, zd_C)) H := by rw [zw_C]; exact hP.sub [0, 2, 3, 4, 5, 6, 1, 7, 8, 9, 10, 11, 12, 13, 14, 15, 16, 19, 20, 21, 17, 18, 22] rfl
  have hD1 : va_D (zl_A s) (zx_w zx_LC (zE_C (dC, dI) a0 q11_L0 q6_18_L0 q25_L0 q6_32_L0 q39_L0 q7_L0 q50_L0 q6_59_L0 q64_L0 q5_73_L0 q6_12_73_L0 q19_73_L0 q6_23_73_L0 q32_73_L0 q40_73_L0 q48_73_L0 q80_L0 q5_93_L0 q6_12_93_L0 q85_L0 q9_90_L0 q21_93_L0 tM c7_L0 c6_59_L0) (zd_rC, zd_C)) := by rw [zw_C]; exact hD.sub [0, 2, 3, 4, 5, 6, 1, 7, 8, 9, 10, 11, 12, 13, 14, 15, 16, 19, 20, 21, 17, 18, 22] (by decide) rfl
  have hP2 : va_P (dC, dI) zx_cl (zx_w zx_LR (zE_R (dC, dI) a8 q8_L8 q17_L8 q26_L8 q35_L8 q44_L8 q53_L8 q66_L8 q74_L8 q96_L8 tM c7_L0 c6_59_L0) ([], zd_R)) H := by rw [zw_R]; exact hP.sub [23, 24, 25, 26, 27, 28, 29, 30, 31, 32] rfl
  have hD2 : va_D (zl_A s) (zx_w zx_LR (zE_R (dC, dI) a8 q8_L8 q17_L8 q26_L8 q35_L8 q44_L8 q53_L8 q66_L8 q74_L8 q96_L8 tM c7_L0 c6_59_L0) ([], zd_R)) := by rw [zw_R]; exact hD.sub [23, 24, 25, 26, 27, 28, 29, 30, 31, 32] (by decide) rfl
  have hdj := zl_dj (w1 := (zx_w zx_LC (zE_C (dC, dI) a0 q11_L0 q6_18_L0 q25_L0 q6_32_L0 q39_L0 q7_L0 q50_L0 q6_59_L0 q64_L0 q5_73_L0 q6_12_73_L0 q19_73_L0 q6_23_73_L0 q32_73_L0 q40_73_L0 q48_73_L0 q80_L0 q5_93_L0 q6_12_93_L0 q85_L0 q9_90_L0 q21_93_L0 tM c7_L0 c6_59_L0) (zd_rC, zd_C))) (w2 := (zx_w zx_LR (zE_R (dC, dI) a8 q8_L8 q17_L8 q26_L8 q35_L8 q44_L8 q53_L8 q66_L8 q74_L8 q96_L8 tM c7_L0 c6_59_L0) ([], zd_R))) hD [0, 2, 3, 4, 5, 6, 1, 7, 8, 9, 10, 11, 12, 13, 14, 15, 16, 19, 20, 21, 17, 18, 22] [23, 24, 25, 26, 27, 28, 29, 30, 31, 32] (by rw [zw_C]; rfl) (by rw [zw_R]; rfl) (by decide)
  have hK0 := hK.sub (tys' := [(c7_L0, .int), (c6_59_L0, .long)]) [0, 3] rfl
  have hd1 : (zE_C (dC, dI) a0 q11_L0 q6_18_L0 q25_L0 q6_32_L0 q39_L0 q7_L0 q50_L0 q6_59_L0 q64_L0 q5_73_L0 q6_12_73_L0 q19_73_L0 q6_23_73_L0 q32_73_L0 q40_73_L0 q48_73_L0 q80_L0 q5_93_L0 q6_12_93_L0 q85_L0 q9_90_L0 q21_93_L0 tM c7_L0 c6_59_L0).1 = (dC, dI) := rfl
  have hd2 : (zE_R (dC, dI) a8 q8_L8 q17_L8 q26_L8 q35_L8 q44_L8 q53_L8 q66_L8 q74_L8 q96_L8 tM c7_L0 c6_59_L0).1 = (dC, dI) := rfl
  have hl : lv_has ls 4 [(0, .ref b), (1, .ref ((zE_C (dC, dI) a0 q11_L0 q6_18_L0 q25_L0 q6_32_L0 q39_L0 q7_L0 q50_L0 q6_59_L0 q64_L0 q5_73_L0 q6_12_73_L0 q19_73_L0 q6_23_73_L0 q32_73_L0 q40_73_L0 q48_73_L0 q80_L0 q5_93_L0 q6_12_93_L0 q85_L0 q9_90_L0 q21_93_L0 tM c7_L0 c6_59_L0).2.1 0)), (2, .ref ((zE_R (dC, dI) a8 q8_L8 q17_L8 q26_L8 q35_L8 q44_L8 q53_L8 q66_L8 q74_L8 q96_L8 tM c7_L0 c6_59_L0).2.1 0)), (3, .int 0)] := hl
  have hm1 : (zE_C (dC, dI) a0 q11_L0 q6_18_L0 q25_L0 q6_32_L0 q39_L0 q7_L0 q50_L0 q6_59_L0 q64_L0 q5_73_L0 q6_12_73_L0 q19_73_L0 q6_23_73_L0 q32_73_L0 q40_73_L0 q48_73_L0 q80_L0 q5_93_L0 q6_12_93_L0 q85_L0 q9_90_L0 q21_93_L0 tM c7_L0 c6_59_L0).2.1 zx_LC.length = tM := rfl
  have hm2 : (zE_R (dC, dI) a8 q8_L8 q17_L8 q26_L8 q35_L8 q44_L8 q53_L8 q66_L8 q74_L8 q96_L8 tM c7_L0 c6_59_L0).2.1 zx_LR.length = tM := rfl
  have hc1 : (zE_C (dC, dI) a0 q11_L0 q6_18_L0 q25_L0 q6_32_L0 q39_L0 q7_L0 q50_L0 q6_59_L0 q64_L0 q5_73_L0 q6_12_73_L0 q19_73_L0 q6_23_73_L0 q32_73_L0 q40_73_L0 q48_73_L0 q80_L0 q5_93_L0 q6_12_93_L0 q85_L0 q9_90_L0 q21_93_L0 tM c7_L0 c6_59_L0).2.2 = (c7_L0, c6_59_L0) := rfl
  have hc2 : (zE_R (dC, dI) a8 q8_L8 q17_L8 q26_L8 q35_L8 q44_L8 q53_L8 q66_L8 q74_L8 q96_L8 tM c7_L0 c6_59_L0).2.2 = (c7_L0, c6_59_L0) := rfl
  generalize (zE_C (dC, dI) a0 q11_L0 q6_18_L0 q25_L0 q6_32_L0 q39_L0 q7_L0 q50_L0 q6_59_L0 q64_L0 q5_73_L0 q6_12_73_L0 q19_73_L0 q6_23_73_L0 q32_73_L0 q40_73_L0 q48_73_L0 q80_L0 q5_93_L0 q6_12_93_L0 q85_L0 q9_90_L0 q21_93_L0 tM c7_L0 c6_59_L0) = E1 at hP1 hD1 hdj hd1 hm1 hc1 hl
  generalize (zE_R (dC, dI) a8 q8_L8 q17_L8 q26_L8 q35_L8 q44_L8 q53_L8 q66_L8 q74_L8 q96_L8 tM c7_L0 c6_59_L0) = E2 at hP2 hD2 hdj hd2 hm2 hc2 hl
  have hA1 := zl_inj hD1
  have hA2 := zl_inj hD2
  have nA : ∀ (lay : List zx_C) (E : zx_E), (∀ q, zx_A lay E q → zl_A s q) → ∀ a : Nat, a < s.heap.size → ¬ zx_A lay E a := fun lay E h a h1 h2 => Nat.not_le_of_lt h1 (h a h2)
  have v1 : zx_env zx_LC zx_ro E1 s s.heap := by
    refine ⟨by rw [hd1, hc1]; exact hK0, ?_, ?_, fun w hw => va_Nw.of (zx_NW_tab w hw) (hts0 w (zx_NW_in w hw)), hA1.1⟩
    · rw [hm1]; exact va_Zof (hts0 _ wt_lays) (hts _ wl_0_1) hM0 (nA _ _ hA1.2)
    · rw [hm1]; exact hT0.narrow (fun q h => hA1.2 q h)
  have v2 : zx_env zx_LR zx_ro E2 s s.heap := by
    refine ⟨by rw [hd2, hc2]; exact hK0, ?_, ?_, fun w hw => va_Nw.of (zx_NW_tab w hw) (hts0 w (zx_NW_in w hw)), hA2.1⟩
    · rw [hm2]; exact va_Zof (hts0 _ wt_lays) (hts _ wl_0_1) hM0 (nA _ _ hA2.2)
    · rw [hm2]; exact hT0.narrow (fun q h => hA2.2 q h)
  have hdj' : ∀ q, zx_A zx_LC E1 q → ¬ zx_A zx_LR E2 q := by
    rintro q ⟨i, hi, rfl⟩ ⟨j, hj, he⟩
    exact hdj i j _ _ (zx_w_at (List.getElem?_eq_getElem hi)) (zx_w_at (List.getElem?_eq_getElem hj)) he
  obtain ⟨Inv, hI0, J⟩ := hJ E1 E2
  have hfin := zl_loop hF ⟨v1, v2, hA1.2, hA2.2, hdj'⟩ hL Inv J (L + 1) 0 _ _ (by omega) (by omega) hI0 (p := p) (e := e) (m := m) (below := below) (meth := meth) (c := c)
  refine hfin H locs ls ?_ ?_ hS ?_
  · rw [hd1]; exact hP1
  · rw [hd2]; exact hP2
  · exact hl
