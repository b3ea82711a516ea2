/-! Forks, calls, ends; a method's contract out of its pure run -/
theorem zx_env.moved {lay : List zx_C} {ro : Nat × (Nat → Int32)} {E : zx_E} {s U : State} {H H1 : Heap} (h : zx_env lay ro E s H) (hW : s.WarmedH U.vm) (hq : ∀ a : Nat, a < H.size → ¬ zx_A lay E a → H1[a]? = H[a]?) : zx_env lay ro E U H1 :=
  ⟨va_K.moved hW.alike h.1, va_Z.moved hW.alike (h.2.1.kept hq), va_T.moved hW.alike (h.2.2.1.kept hq), zx_NW_moved hW h.2.2.2.1, h.2.2.2.2⟩
abbrev zx_Y : Type := MethodName × Nat × ByteArray × Nat × Option FieldType
def zx_cd (y : zx_Y) : Cond := .code y.1 y.2.2.1 y.2.2.2.1 y.2.2.2.2
def zx_ws (y : zx_Y) : List Cond := zx_cd y :: zx_WS
def zx_Q (lay : List zx_C) (E : zx_E) (Q : Option Value → zx_S → Prop) : Array Value → State → Outcome → State → Prop := fun _ st oc t => (∃ (r : Option Value) (S' : zx_S), oc = .returned (r.map (zx_v E.2.1)) ∧ Q r S' ∧ va_P E.1 zx_cl (zx_w lay E S') t.heap) ∧ va_F (zx_A lay E) st t
def zx_Pc (lay : List zx_C) (ro : Nat × (Nat → Int32)) (E : zx_E) (av : List Value) (S : zx_S) : Array Value → State → Prop := va_Pc (av.map (zx_v E.2.1)) (fun U => va_P E.1 zx_cl (zx_w lay E S) U.heap ∧ zx_env lay ro E U U.heap)
theorem zx_blind {lay : List zx_C} {ro : Nat × (Nat → Int32)} {E : zx_E} {av : List Value} {S : zx_S} : FrameBlind (zx_Pc lay ro E av S) := by
  intro a U g mk q
  obtain ⟨q0, qP, q1, q2, q3, q4, q5⟩ := q
  exact ⟨q0, qP, va_K.moved (u := U) (U := U.calling g mk a) (Vm.Alike.refl U.vm) q1, va_Z.moved (u := U) (U := U.calling g mk a) (Vm.Alike.refl U.vm) q2, va_T.moved (u := U) (U := U.calling g mk a) (Vm.Alike.refl U.vm) q3, fun w hw => va_Nw.same (zx_NW_tab w hw) (u := U) (U := U.calling g mk a) rfl (q4 w hw), q5⟩
/-- the contract: method number k, calls at most d deep, given av in the state S, comes back with Q -/
def zx_Met (mt : List zx_Y) (lay : List zx_C) (ro : Nat × (Nat → Int32)) (l : Launch) (E : zx_E) (k d : Nat) (av : List Value) (S : zx_S) (Q : Option Value → zx_S → Prop) : Prop :=
  ∃ y, mt[k]? = some y ∧ Met l y.1 (zx_ws y) (zx_rm d) (zx_Pc lay ro E av S) (zx_Q lay E Q) 0 0 (zx_A lay E)
theorem zx_gin {ws : List Cond} (h : ∀ w ∈ ws, w ∈ zx_WS) : GoodIn zx_WS ws := fun w hw => ⟨h w hw, zx_good w (h w hw)⟩
abbrev zx_noMH (s : String) : Prop := s ≠ "java/lang/invoke/MethodHandle" ∧ s ≠ "java/lang/invoke/VarHandle"
abbrev zx_na (x : MethodName) (n : Nat) : Prop := (parseMethodDescriptor x.desc).map (fun d => d.parameters.length) = some n
def zx_vOK (mt : List zx_Y) (o idx n ci k : Nat) : Prop := ∃ (C : String) (T : u_T) (N : Nat) (y : zx_Y), zx_cl[ci]? = some (C, T, N) ∧ mt[k]? = some y ∧ y.2.2.2.1 ≤ 21 ∧ zx_cd y ∈ zx_WS ∧
  ((y.1.cls = C ∧ zx_noMH y.1.cls ∧ zx_na y.1 n ∧ Cond.methodLink (zx_on o) idx y.1 ∈ zx_WS ∧ Cond.instanceMethod y.1 ∈ zx_WS ∧ Cond.selects C y.1 y.1 ∈ zx_WS ∧ Cond.initialized C ∈ zx_WS) ∨
   (∃ (owner : String) (x : MethodName), zx_noMH owner ∧ zx_na x n ∧ Cond.methodLink (zx_on o) idx x ∈ zx_WS ∧ Cond.sameMethod x.cls owner x.name x.desc ∈ zx_WS ∧ Cond.selects C x y.1 ∈ zx_WS ∧ Cond.instanceMethod y.1 ∈ zx_WS ∧ Cond.initialized y.1.cls ∈ zx_WS ∧ (y.1 = ⟨owner, x.name, x.desc⟩ ∨ Cond.declares ⟨owner, x.name, x.desc⟩ ∈ zx_NW)))
def zx_sOK (mt : List zx_Y) (o idx n k : Nat) : Prop := ∃ y : zx_Y, mt[k]? = some y ∧ y.2.2.2.1 ≤ 21 ∧ zx_cd y ∈ zx_WS ∧ zx_noMH y.1.cls ∧ zx_na y.1 n ∧ Cond.static y.1 ∈ zx_WS ∧ Cond.initialized y.1.cls ∈ zx_WS ∧
  (Cond.methodLink (zx_on o) idx y.1 ∈ zx_WS ∨ ∃ host : String, Cond.methodLinkNest (zx_on o) idx y.1 host ∈ zx_NW)
section ZX
variable {p : Program} {l : Launch} {e : Env} {R : Room} {s : State} {m : MethodId} {args : Array Value} {below : List Frame} {meth : Method} {c : Code} {Qs : State → Prop}
variable {lay : List zx_C} {ro : Nat × (Nat → Int32)} {E : zx_E} {o : Nat} {cc : ByteArray} {nL d : Nat} {ret : Option FieldType} {mt : List zx_Y}
theorem zx_kbr (F : zx_F lay ro E o cc nL d ret p R s m args meth c) {n : Nat} {I : zx_I} {X X1 X2 : zx_X} {q : Prop} (hok : zx_okB o ret cc X.1 n I = true) (hs : zx_brn n I X = some (q, X1, X2)) (k1 : q → zx_Z lay E p l e R s m args below meth c nL Qs X1) (k2 : ¬ q → zx_Z lay E p l e R s m args below meth c nL Qs X2) : zx_Z lay E p l e R s m args below meth c nL Qs X := by
  obtain ⟨hx, hb, hml, hown, hts, henv, hlok, hret, hlk, hR⟩ := F
  obtain ⟨op, a, b, v, as⟩ := I
  obtain ⟨pc, L, st, S⟩ := X
  simp only [zx_brn] at hs
  split at hs
  · simp only [Option.some.injEq, Prod.mk.injEq] at hs
    obtain ⟨rfl, rfl, rfl⟩ := hs
    simp only [zx_okB, Bool.and_eq_true, decide_eq_true_eq] at hok
    obtain ⟨rfl, h1⟩ := hok
    have h2 := zx_dd_spec h1
    intro H locs ls hP hS hl
    match b, h2, k1, k2 with
    | 0, h2, k1, k2 => exact lv_icmp_eq hx hb h2 (by omega) (fun h => k1 h H locs ls hP hS hl) (fun h => k2 h H locs ls hP hS hl)
    | 1, h2, k1, k2 => exact lv_icmp_ne hx hb h2 (by omega) (fun h => k1 h H locs ls hP hS hl) (fun h => k2 (fun q => q h) H locs ls hP hS hl)
    | 2, h2, k1, k2 => exact lv_icmp_lt hx hb h2 (by omega) (fun h => k1 h H locs ls hP hS hl) (fun h => k2 h H locs ls hP hS hl)
    | 3, h2, k1, k2 => exact lv_icmp_ge hx hb h2 (by omega) (fun h => k1 h H locs ls hP hS hl) (fun h => k2 h H locs ls hP hS hl)
    | 4, h2, k1, k2 => exact lv_icmp_gt hx hb h2 (by omega) (fun h => k1 h H locs ls hP hS hl) (fun h => k2 h H locs ls hP hS hl)
    | _ + 5, h2, k1, k2 => exact lv_icmp_le hx hb h2 (by omega) (fun h => k1 h H locs ls hP hS hl) (fun h => k2 h H locs ls hP hS hl)
  · simp only [Option.some.injEq, Prod.mk.injEq] at hs
    obtain ⟨rfl, rfl, rfl⟩ := hs
    simp only [zx_okB, Bool.and_eq_true, decide_eq_true_eq] at hok
    obtain ⟨rfl, h1⟩ := hok
    have h2 := zx_dd_spec h1
    intro H locs ls hP hS hl
    match b, h2, k1, k2 with
    | 0, h2, k1, k2 => exact lv_if_eq hx hb h2 (by omega) (fun h => k1 h H locs ls hP hS hl) (fun h => k2 h H locs ls hP hS hl)
    | 1, h2, k1, k2 => exact lv_if_ne hx hb h2 (by omega) (fun h => k1 h H locs ls hP hS hl) (fun h => k2 (fun q => q h) H locs ls hP hS hl)
    | 2, h2, k1, k2 => exact lv_if_lt hx hb h2 (by omega) (fun h => k1 h H locs ls hP hS hl) (fun h => k2 h H locs ls hP hS hl)
    | 3, h2, k1, k2 => exact lv_if_ge hx hb h2 (by omega) (fun h => k1 h H locs ls hP hS hl) (fun h => k2 h H locs ls hP hS hl)
    | 4, h2, k1, k2 => exact lv_if_gt hx hb h2 (by omega) (fun h => k1 h H locs ls hP hS hl) (fun h => k2 h H locs ls hP hS hl)
    | _ + 5, h2, k1, k2 => exact lv_if_le hx hb h2 (by omega) (fun h => k1 h H locs ls hP hS hl) (fun h => k2 h H locs ls hP hS hl)
  · rename_i y x st'
    simp only [Option.some.injEq, Prod.mk.injEq] at hs
    obtain ⟨rfl, rfl, rfl⟩ := hs
    simp only [zx_okB, Bool.and_eq_true, decide_eq_true_eq] at hok
    obtain ⟨⟨rfl, h1⟩, h3⟩ := hok
    have h2 := zx_dd_spec h3
    intro H locs ls hP hS hl
    refine W.lcmp hx hb (zx_dd_spec h1) ?_
    match b, h2, k1, k2 with
    | 0, h2, k1, k2 => exact lv_if_eq hx hb h2 (by omega) (fun h => k1 ((lg_cmp_eq x y).mp h) H locs ls hP hS hl) (fun h => k2 (fun q => h ((lg_cmp_eq x y).mpr q)) H locs ls hP hS hl)
    | 1, h2, k1, k2 => exact lv_if_ne hx hb h2 (by omega) (fun h => k1 (fun q => h ((lg_cmp_eq x y).mpr q)) H locs ls hP hS hl) (fun h => k2 (fun q => q ((lg_cmp_eq x y).mp h)) H locs ls hP hS hl)
    | 2, h2, k1, k2 => exact lv_if_lt hx hb h2 (by omega) (fun h => k1 ((lg_cmp_lt x y).mp h) H locs ls hP hS hl) (fun h => k2 (fun q => h ((lg_cmp_lt x y).mpr q)) H locs ls hP hS hl)
    | 3, h2, k1, k2 => exact lv_if_ge hx hb h2 (by omega) (fun h => k1 ((lg_cmp_ge x y).mp h) H locs ls hP hS hl) (fun h => k2 (fun q => h ((lg_cmp_ge x y).mpr q)) H locs ls hP hS hl)
    | 4, h2, k1, k2 => exact lv_if_gt hx hb h2 (by omega) (fun h => k1 ((lg_cmp_gt x y).mp h) H locs ls hP hS hl) (fun h => k2 (fun q => h ((lg_cmp_gt x y).mpr q)) H locs ls hP hS hl)
    | _ + 5, h2, k1, k2 => exact lv_if_le hx hb h2 (by omega) (fun h => k1 ((lg_cmp_le x y).mp h) H locs ls hP hS hl) (fun h => k2 (fun q => h ((lg_cmp_le x y).mpr q)) H locs ls hP hS hl)
  · cases hs
theorem zx_kret (F : zx_F lay ro E o cc nL d ret p R s m args meth c) {n : Nat} {I : zx_I} {X : zx_X} {q : Prop} {r : Option Value} {Q : Option Value → zx_S → Prop} (hok : zx_okB o ret cc X.1 n I = true) (hs : zx_rtn I X = some (q, r)) (hq : q) (hQ : Q r X.2.2.2) : zx_Z lay E p l e R s m args below meth c nL (MQ below (zx_Q lay E Q) args s 0 0 (zx_A lay E)) X := by
  obtain ⟨hx, hb, hml, hown, hts, henv, hlok, hret, hlk, hR⟩ := F
  obtain ⟨op, a, b, v, as⟩ := I
  obtain ⟨pc, L, st, S⟩ := X
  have key : ∀ (H : Heap) (locs : List Loc), va_P E.1 zx_cl (zx_w lay E S) H → va_S (zx_A lay E) s.heap H locs → ∀ t : State, t.heap = H → zx_Q lay E Q args s (.returned (r.map (zx_v E.2.1))) t :=
    fun H locs hP hS t ht => ⟨⟨r, S, rfl, hQ, by rw [ht]; exact hP⟩, hS.F ht⟩
  simp only [zx_rtn] at hs
  split at hs
  · simp only [Option.some.injEq, Prod.mk.injEq] at hs
    obtain ⟨rfl, rfl⟩ := hs
    simp only [zx_okB, Bool.and_eq_true, decide_eq_true_eq] at hok
    exact fun H locs ls hP hS hl => W.vret hx hb (hret.trans hok.2) (fun t ht _ => key H locs hP hS t ht) hS.2.2 (zx_dd_spec hok.1) hlk
  · simp only [Option.some.injEq, Prod.mk.injEq] at hs
    obtain ⟨rfl, rfl⟩ := hs
    simp only [zx_okB, Bool.and_eq_true, decide_eq_true_eq] at hok
    exact fun H locs ls hP hS hl => W.iret hx hb (hret.trans hok.2) (fun t ht _ => key H locs hP hS t ht) hS.2.2 (zx_dd_spec hok.1) hlk
  · simp only [Option.some.injEq, Prod.mk.injEq] at hs
    obtain ⟨rfl, rfl⟩ := hs
    simp only [zx_okB, Bool.and_eq_true, decide_eq_true_eq] at hok
    exact fun H locs ls hP hS hl => W.lret hx hb (hret.trans hok.2) (fun t ht _ => key H locs hP hS t ht) hS.2.2 (zx_dd_spec hok.1) hlk
  · simp only [Option.some.injEq, Prod.mk.injEq] at hs
    obtain ⟨rfl, rfl⟩ := hs
    simp only [zx_okB, Bool.and_eq_true] at hok
    obtain ⟨h1, h2⟩ := hok
    split at h2
    · rename_i nm
      exact fun H locs ls hP hS hl => W.aret hx hb hret (Or.inl ⟨_, rfl⟩) (Or.inr ⟨_, rfl⟩) (fun t ht _ => key H locs hP hS t ht) hS.2.2 (zx_dd_spec h1) hlk
    · cases h2
  · simp only [Option.some.injEq, Prod.mk.injEq] at hs
    obtain ⟨rfl, rfl⟩ := hs
    simp only [zx_okB, Bool.and_eq_true, decide_eq_true_eq] at hok
    exact fun H locs ls hP hS hl => W.zret hx hb (hret.trans hok.2) (by rcases hq with rfl | rfl <;> decide) (fun t ht _ => key H locs hP hS t ht) hS.2.2 (zx_dd_spec hok.1) hlk
  · cases hs
theorem zx_cont {H : Heap} {locs : List Loc} {pc : Nat} {ls : Array Slot} {st0 rest : List Value} {a : Array Value} {Q' : Option Value → zx_S → Prop} (hr : va_Run p l e R s m args below meth c H locs 0 0 0 0 (F0 m pc ls st0) rest (zx_Q lay E Q' a) (zx_A lay E)) (hS : va_S (zx_A lay E) s.heap H locs)
    (kk : ∀ (r : Option Value) (S' : zx_S) (H1 : Heap) (locs1 : List Loc), Q' r S' → va_P E.1 zx_cl (zx_w lay E S') H1 → va_S (zx_A lay E) s.heap H1 locs1 → W p l e R s m args below meth c H1 locs1 0 0 Qs (F0 m (pc + 3) ls ((r.map (zx_v E.2.1)).toList ++ rest))) : W p l e R s m args below meth c H locs 0 0 Qs (F0 m pc ls st0) := by
  intro T hT X
  obtain ⟨v, st₀, t, T', L, h0, X', hL, e1, e2, ⟨⟨r, S', hv, hq, hp⟩, hz, hk⟩, st⟩ := hr T hT X
  cases hv
  rw [h0] at hz hk
  obtain ⟨t2, a1, b1⟩ := kk r S' T'.heap (locs ++ L) hq (by rw [e1]; exact hp)
    ⟨Nat.le_trans hS.1 (by rw [e1]; exact hz), fun q h1 h2 => by rw [e1, hk q (Nat.lt_of_lt_of_le h1 hS.1) h2]; exact hS.2.1 q h1 h2, fun q hq => by
      rcases List.mem_append.mp hq with h | h
      · exact hS.2.2 q h
      · exact hL q h⟩ T' rfl X'
  exact ⟨t2, st t2 a1, b1⟩
theorem zx_env.at (henv : zx_env lay ro E s s.heap) {H : Heap} {locs : List Loc} (hS : va_S (zx_A lay E) s.heap H locs) {U : State} (hU : U.heap = H) (hW : s.WarmedH U.vm) : zx_env lay ro E U U.heap :=
  henv.moved hW (fun a h1 h2 => by rw [hU]; exact hS.2.1 a h1 h2)
theorem zx_map_split (f : Value → Value) (st : List Value) (b : Nat) : st.map f = (((st.take b).reverse).map f).reverse ++ (st.drop b).map f := by
  rw [← List.map_reverse, List.reverse_reverse, ← List.map_append, List.take_append_drop]
theorem zx_kcal (F : zx_F lay ro E o cc nL d ret p R s m args meth c) (hvt : ∀ q ∈ zx_vtab, zx_vOK mt q.1 q.2.1 q.2.2.1 q.2.2.2.1 q.2.2.2.2) (hst : ∀ q ∈ zx_stab2, zx_sOK mt q.1 q.2.1 q.2.2.1 q.2.2.2.2) {n k dd : Nat} {I : zx_I} {X X1 : zx_X} {av : List Value} {Q' : Option Value → zx_S → Prop} (hok : zx_okB o ret cc X.1 n I = true) (hs : zx_cal lay n I X = some (k, av, X1)) (hd : dd < d) (hM : zx_Met mt lay ro l E k dd av X.2.2.2 Q')
    (hz : ∀ (r : Option Value) (S' : zx_S), Q' r S' → zx_Z lay E p l e R s m args below meth c nL Qs (X1.1, X1.2.1, r.toList ++ X1.2.2.1, S')) : zx_Z lay E p l e R s m args below meth c nL Qs X := by
  obtain ⟨hx, hb, hml, hown, hts, henv, hlok, hret, hlk, hR⟩ := F
  subst hR
  obtain ⟨op, a, b, v, as⟩ := I
  obtain ⟨pc, L, st, S⟩ := X
  obtain ⟨y, hy, hM⟩ := hM
  have hroom : ∀ mL, mL ≤ 21 → (zx_rm dd).frames + 1 ≤ (zx_rm d).frames ∧ 8 + (mL + 11) + (zx_rm dd).locals ≤ (zx_rm d).locals := by
    intro mL h
    simp only [zx_rm]
    omega
  have htl : ∀ (r : Option Value) (rest : List Value), (r.map (zx_v E.2.1)).toList ++ rest.map (zx_v E.2.1) = (r.toList ++ rest).map (zx_v E.2.1) := by
    intro r rest
    cases r <;> rfl
  simp only [zx_cal] at hs
  split at hs
  · split at hs
    · rename_i q rest hdrop
      split at hs
      · rename_i ci ks hlay
        split at hs
        · rename_i k' hk
          split at hs
          · rename_i hw
            simp only [Option.some.injEq, Prod.mk.injEq] at hs
            obtain ⟨rfl, rfl, rfl⟩ := hs
            simp only [zx_okB, Bool.and_eq_true, decide_eq_true_eq, List.all_eq_true] at hok
            obtain ⟨⟨rfl, h1⟩, h2⟩ := hok
            obtain ⟨C, T, N, y', g1, g2, g3, g4, g5⟩ := hvt _ (h2 _ (zx_find_mem _ _ _ hk))
            have hyy : y = y' := Option.some.inj (hy.symm.trans g2)
            subst hyy
            intro H locs ls hP hS hl
            have hpre : PreV s H C (E.2.1 q) (zx_Pc lay ro E (.ref q :: (st.take b).reverse) S) (((st.take b).reverse).map (zx_v E.2.1)) := ⟨zx_blind, va_recv henv.1 hP g1 (zx_w_at hlay), fun U hU hW => ⟨rfl, by rw [hU]; exact hP, henv.at hS hU hW⟩⟩
            have hlen : b ≤ st.length := by
              rcases Nat.lt_or_ge st.length b with h | h
              · rw [List.drop_eq_nil_of_le (Nat.le_of_lt h)] at hdrop
                cases hdrop
              · exact h
            have hn : (((st.take b).reverse).map (zx_v E.2.1)).length = b := by simp; omega
            have hstk : st.map (zx_v E.2.1) = (((st.take b).reverse).map (zx_v E.2.1)).reverse ++ .ref (E.2.1 q) :: rest.map (zx_v E.2.1) := by
              rw [zx_map_split (zx_v E.2.1) st b, hdrop]
              rfl
            have hwd : 2 * (F0 m pc ls (st.map (zx_v E.2.1))).monitorRoom + ((rest.map (zx_v E.2.1)).map fun v => v.category).sum ≤ 8 := lv_room (by rw [zx_wd_sum]; exact hw)
            have hgi : ∀ w ∈ zx_ws y, w ∈ zx_WS := fun w hw => by
              rcases List.mem_cons.mp hw with rfl | hw
              · exact g4
              · exact hw
            have hfix : CallFix p m c cc nL s args zx_WS (zx_on o) := ⟨hx, hb, hml, hown, hts⟩
            refine zx_cont (a := (Value.ref (E.2.1 q) :: ((st.take b).reverse).map (zx_v E.2.1)).toArray) (Q' := Q') (rest := rest.map (zx_v E.2.1)) ?_ hS (fun r S' H1 locs1 hq hP1 hS1 => ?_)
            · rcases g5 with ⟨rfl, f1, f2, f3, f4, f5, f6⟩ | ⟨owner, x, f1, f2, f3, f4, f5, f6, f7, f8⟩
              · refine va_runV hfix hM (cwV b hts (zx_gin fun w hw => ?_) rfl rfl rfl ⟨rfl, f1.1, f1.2, f2⟩ (hroom _ g3)) hpre rfl hn hl.1 hstk hwd (zx_dd_spec h1) ⟨Nat.le_refl _, Nat.le_refl _⟩
                simp only [wsV, List.mem_append, List.mem_cons, List.not_mem_nil, or_false] at hw
                rcases hw with (rfl | rfl | rfl | rfl) | hw
                · exact f3
                · exact f4
                · exact f5
                · exact f6
                · exact hgi w hw
              · have hall : ∀ w ∈ va_wsU (zx_on o) a C owner x y.1 (zx_ws y), w ∈ zx_WS := fun w hw => by
                  simp only [va_wsU, List.mem_append, List.mem_cons, List.not_mem_nil, or_false] at hw
                  rcases hw with (rfl | rfl | rfl | rfl | rfl) | hw
                  · exact f3
                  · exact f4
                  · exact f5
                  · exact f6
                  · exact f7
                  · exact hgi w hw
                rcases f8 with f8 | f8
                · exact va_runU hfix hM (va_cwU b hts (zx_gin hall) rfl rfl rfl f8 ⟨f1.1, f1.2, f2⟩ (hroom _ g3)) hpre rfl hn hl.1 hstk hwd (zx_dd_spec h1) ⟨Nat.le_refl _, Nat.le_refl _⟩
                · exact va_runU hfix hM (va_cwA b hts (zx_gin hall) rfl rfl rfl (henv.2.2.2.1 _ f8) ⟨f1.1, f1.2, f2⟩ (hroom _ g3)) hpre rfl hn hl.1 hstk hwd (zx_dd_spec h1) ⟨Nat.le_refl _, Nat.le_refl _⟩
            · have := hz r S' hq H1 locs1 ls hP1 hS1 hl
              rw [htl]
              exact this
          · cases hs
        · cases hs
      · cases hs
    · cases hs
  · split at hs
    · rename_i c0 k'
      split at hs
      · rename_i hw
        obtain ⟨hw, hlen⟩ := hw
        simp only [Option.some.injEq, Prod.mk.injEq] at hs
        obtain ⟨rfl, rfl, rfl⟩ := hs
        simp only [zx_okB, Bool.and_eq_true, decide_eq_true_eq, List.all_eq_true] at hok
        obtain ⟨⟨rfl, h1⟩, h2⟩ := hok
        obtain ⟨y', g2, g3, g4, f1, f2, f3, f4, f5⟩ := hst _ (h2 _ List.mem_cons_self)
        have hyy : y = y' := Option.some.inj (hy.symm.trans g2)
        subst hyy
        intro H locs ls hP hS hl
        have hpre : PreS s H (zx_Pc lay ro E ((st.take b).reverse) S) (((st.take b).reverse).map (zx_v E.2.1)) := ⟨zx_blind, fun U hU hW => ⟨rfl, by rw [hU]; exact hP, henv.at hS hU hW⟩⟩
        have hn : (((st.take b).reverse).map (zx_v E.2.1)).length = b := by simp; omega
        have hstk : st.map (zx_v E.2.1) = (((st.take b).reverse).map (zx_v E.2.1)).reverse ++ (st.drop b).map (zx_v E.2.1) := zx_map_split (zx_v E.2.1) st b
        have hwd : 2 * (F0 m pc ls (st.map (zx_v E.2.1))).monitorRoom + (((st.drop b).map (zx_v E.2.1)).map fun v => v.category).sum ≤ 8 := lv_room (by rw [zx_wd_sum]; exact hw)
        have hgi : ∀ w ∈ zx_ws y, w ∈ zx_WS := fun w hw => by
          rcases List.mem_cons.mp hw with rfl | hw
          · exact g4
          · exact hw
        have hfix : CallFix p m c cc nL s args zx_WS (zx_on o) := ⟨hx, hb, hml, hown, hts⟩
        refine zx_cont (a := (((st.take b).reverse).map (zx_v E.2.1)).toArray) (Q' := Q') (rest := (st.drop b).map (zx_v E.2.1)) ?_ hS (fun r S' H1 locs1 hq hP1 hS1 => ?_)
        · rcases f5 with f5 | ⟨host, f5⟩
          · refine va_runS hfix hM (va_cwS b hts (zx_gin fun w hw => ?_) rfl rfl rfl ⟨f1.1, f1.2, f2⟩ (hroom _ g3)) hpre rfl hn hl.1 hstk hwd (zx_dd_spec h1) ⟨Nat.le_refl _, Nat.le_refl _⟩
            simp only [va_wsS, List.mem_append, List.mem_cons, List.not_mem_nil, or_false] at hw
            rcases hw with (rfl | rfl | rfl) | hw
            · exact f5
            · exact f3
            · exact f4
            · exact hgi w hw
          · exact va_runSN hfix hM ⟨va_cnB b hts (zx_gin hgi) rfl rfl rfl (henv.2.2.2.1 _ f5) (hts _ f4) ⟨f1.1, f1.2, f2⟩ (hroom _ g3), hts _ f3, trivial⟩ hpre rfl hn hl.1 hstk hwd (zx_dd_spec h1) ⟨Nat.le_refl _, Nat.le_refl _⟩
        · have := hz r S' hq H1 locs1 ls hP1 hS1 hl
          rw [htl]
          exact this
      · cases hs
    · cases hs
  · cases hs
end ZX
