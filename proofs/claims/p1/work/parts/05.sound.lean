/-! Each step of the pure machine, over the kit's rows -/
theorem zx_f4_eq {a : Nat} (h : a < 4) : ((zx_f4 a : Fin 4) : Nat) = a := Nat.mod_eq_of_lt h
theorem zx_find_mem : ∀ (as : List (Nat × Nat)) (c k : Nat), zx_find as c = some k → (c, k) ∈ as
  | [], _, _, h => by cases h
  | e :: r, c, k, h => by
    unfold zx_find at h
    split at h
    · rename_i he
      cases h
      subst he
      exact List.mem_cons_self
    · exact List.mem_cons_of_mem _ (zx_find_mem r c k h)
theorem zx_wd_sum (r : Nat → Nat) : ∀ st : List Value, ((st.map (zx_v r)).map fun v => v.category).sum = zx_wd st
  | [] => rfl
  | v :: st => by
    have ih := zx_wd_sum r st
    simp only [List.map_cons, List.sum_cons, ih, zx_cat]
    cases v <;> simp only [Value.category, zx_wd] <;> omega
def zx_rm (d : Nat) : Room := { frames := d + 1, cells := 0, slots := 0, locals := 40 * (d + 1) }
def zx_env (lay : List zx_C) (ro : Nat × (Nat → Int32)) (E : zx_E) (U : State) (H : Heap) : Prop :=
  va_K E.1 zx_cl [(E.2.2.1, .int), (E.2.2.2, .long)] U ∧ va_Z zx_mgC zx_mgN zx_mgD (.ref (E.2.1 lay.length)) (zx_A lay E) U H ∧ va_T .int (E.2.1 lay.length) ro.1 (fun j => .int (ro.2 j)) (zx_A lay E) U H ∧ (∀ w ∈ zx_NW, va_Nw w U) ∧ zx_inj lay E
def zx_kt (kd : Nat) : Nat := if 50 ≤ kd then 2 else kd
def zx_lok (lay : List zx_C) : Prop := (∀ (q ci : Nat) (ks : List Nat), lay[q]? = some (.inl (ci, ks)) → ks.map zx_kt = zx_kd ci) ∧ zx_luq lay
def zx_F (lay : List zx_C) (ro : Nat × (Nat → Int32)) (E : zx_E) (o : Nat) (cc : ByteArray) (nL d : Nat) (ret : Option FieldType) (p : Program) (R : Room) (s : State) (m : MethodId) (args : Array Value) (meth : Method) (c : Code) : Prop :=
  p.tables.exec = Jvm.exec ∧ c.code = cc ∧ c.maxLocals = nL ∧ s.vm.findClass (zx_on o) = some m.cls ∧ (∀ w ∈ zx_WS, w.before args s = true) ∧ zx_env lay ro E s s.heap ∧ zx_lok lay ∧ meth.sig.returnType = ret ∧ meth.locks = false ∧ R = zx_rm d
def zx_Z (lay : List zx_C) (E : zx_E) (p : Program) (l : Launch) (e : Env) (R : Room) (s : State) (m : MethodId) (args : Array Value) (below : List Frame) (meth : Method) (c : Code) (nL : Nat) (Qs : State → Prop) (X : zx_X) : Prop :=
  ∀ (H : Heap) (locs : List Loc) (ls : Array Slot), va_P E.1 zx_cl (zx_w lay E X.2.2.2) H → va_S (zx_A lay E) s.heap H locs → zx_lv E.2.1 ls nL X.2.1 → W p l e R s m args below meth c H locs 0 0 Qs (F0 m X.1 ls (X.2.2.1.map (zx_v E.2.1)))
section ZX
variable {p : Program} {l : Launch} {e : Env} {R : Room} {s : State} {m : MethodId} {args : Array Value} {below : List Frame} {meth : Method} {c : Code} {Qs : State → Prop}
variable {lay : List zx_C} {ro : Nat × (Nat → Int32)} {E : zx_E} {o : Nat} {cc : ByteArray} {nL d : Nat} {ret : Option FieldType}
variable {n a b pc : Nat} {v : Value} {as : List (Nat × Nat)} {L : List (Option Value)} {st : List Value} {S : zx_S} {oc : Option Prop} {X' : zx_X}
theorem zx_k0 (F : zx_F lay ro E o cc nL d ret p R s m args meth c) (hok : zx_okB o ret cc pc n (0, a, b, v, as) = true) (hs : zx_stp lay ro n (0, a, b, v, as) (pc, L, st, S) = some (oc, X')) (hc : ∀ q, oc = some q → q) (hz : zx_Z lay E p l e R s m args below meth c nL Qs X') : zx_Z lay E p l e R s m args below meth c nL Qs (pc, L, st, S) := by
  obtain ⟨hx, hb, hml, hown, hts, henv, hlok, hret, hlk, hR⟩ := F
  simp only [zx_stp, Option.some.injEq, Prod.mk.injEq] at hs
  obtain ⟨rfl, rfl⟩ := hs
  simp only [zx_okB] at hok
  split at hok
  · simp only [Bool.and_eq_true, decide_eq_true_eq, Bool.or_eq_true] at hok
    obtain ⟨rfl, h1⟩ := hok
    exact fun H locs ls hP hS hl => lv_iconst hx hb (zx_dd_spec h1) (Int32.ofInt_toInt _) (hz H locs ls hP hS hl)
  · simp only [Bool.and_eq_true, decide_eq_true_eq, Bool.or_eq_true] at hok
    obtain ⟨⟨rfl, h1⟩, h2⟩ := hok
    exact fun H locs ls hP hS hl => lv_bipush hx hb (zx_dd_spec h1) h2 (hz H locs ls hP hS hl)
  · simp only [Bool.and_eq_true, decide_eq_true_eq, Bool.or_eq_true] at hok
    obtain ⟨⟨rfl, h1⟩, h2⟩ := hok
    exact fun H locs ls hP hS hl => lv_sipush hx hb (zx_dd_spec h1) h2 (hz H locs ls hP hS hl)
  · simp only [Bool.and_eq_true, decide_eq_true_eq, Bool.or_eq_true] at hok
    obtain ⟨⟨rfl, h1⟩, rfl⟩ := hok
    exact fun H locs ls hP hS hl => lv_lconst hx hb (zx_dd_spec h1) rfl (hz H locs ls hP hS hl)
  · simp only [Bool.and_eq_true, decide_eq_true_eq, Bool.or_eq_true] at hok
    obtain ⟨⟨rfl, h1⟩, rfl⟩ := hok
    exact fun H locs ls hP hS hl => lv_lconst hx hb (zx_dd_spec h1) rfl (hz H locs ls hP hS hl)
  · simp only [Bool.and_eq_true, decide_eq_true_eq, Bool.or_eq_true] at hok
    obtain ⟨⟨rfl, h1⟩, h2⟩ := hok
    exact fun H locs ls hP hS hl => lv_ldc2 hx hb hown (hts _ (zx_ctab_ok _ h2)) (zx_dd_spec h1) (hz H locs ls hP hS hl)
  · simp only [Bool.and_eq_true, decide_eq_true_eq, Bool.or_eq_true] at hok
    obtain ⟨⟨rfl, h1⟩, h2⟩ := hok
    exact fun H locs ls hP hS hl => lv_ldcw hx hb hown (hts _ (zx_itab_ok _ h2)) (zx_dd_spec h1) (hz H locs ls hP hS hl)
  · cases hok
theorem zx_k1 (F : zx_F lay ro E o cc nL d ret p R s m args meth c) (hok : zx_okB o ret cc pc n (1, a, b, v, as) = true) (hs : zx_stp lay ro n (1, a, b, v, as) (pc, L, st, S) = some (oc, X')) (hc : ∀ q, oc = some q → q) (hz : zx_Z lay E p l e R s m args below meth c nL Qs X') : zx_Z lay E p l e R s m args below meth c nL Qs (pc, L, st, S) := by
  obtain ⟨hx, hb, hml, hown, hts, henv, hlok, hret, hlk, hR⟩ := F
  cases hw : zx_ld b L[a]? with
  | none => simp [zx_stp, hw] at hs
  | some w =>
    simp only [zx_stp, hw, Option.some.injEq, Prod.mk.injEq] at hs
    obtain ⟨rfl, rfl⟩ := hs
    unfold zx_ld at hw
    split at hw
    · rename_i h
      cases hw
      simp only [zx_okB, Bool.and_eq_true, decide_eq_true_eq, Bool.or_eq_true] at hok
      rcases hok with ⟨⟨rfl, h4⟩, h1⟩ | ⟨rfl, h1⟩
      · exact fun H locs ls hP hS hl => lv_iload_n hx hb (zx_dd_spec h1) (zx_f4_eq h4) (hl.2.2.2 _ _ h) (hz H locs ls hP hS hl)
      · exact fun H locs ls hP hS hl => lv_iload hx hb (zx_dd_spec h1) (hl.2.2.2 _ _ h) (hz H locs ls hP hS hl)
    · rename_i h
      cases hw
      simp only [zx_okB, Bool.and_eq_true, decide_eq_true_eq, Bool.or_eq_true] at hok
      rcases hok with ⟨⟨rfl, h4⟩, h1⟩ | ⟨rfl, h1⟩
      · exact fun H locs ls hP hS hl => lv_lload_n hx hb (zx_dd_spec h1) (zx_f4_eq h4) (hl.2.2.2 _ _ h) (hz H locs ls hP hS hl)
      · exact fun H locs ls hP hS hl => lv_lload hx hb (zx_dd_spec h1) (hl.2.2.2 _ _ h) (hz H locs ls hP hS hl)
    · rename_i h
      cases hw
      simp only [zx_okB, Bool.and_eq_true, decide_eq_true_eq, Bool.or_eq_true] at hok
      rcases hok with ⟨⟨rfl, h4⟩, h1⟩ | ⟨rfl, h1⟩
      · exact fun H locs ls hP hS hl => lv_aload_n hx hb (zx_dd_spec h1) (zx_f4_eq h4) (hl.2.2.2 _ _ h) (hz H locs ls hP hS hl)
      · exact fun H locs ls hP hS hl => lv_aload hx hb (zx_dd_spec h1) (hl.2.2.2 _ _ h) (hz H locs ls hP hS hl)
    · cases hw
theorem zx_k2 (F : zx_F lay ro E o cc nL d ret p R s m args meth c) (hok : zx_okB o ret cc pc n (2, a, b, v, as) = true) (hs : zx_stp lay ro n (2, a, b, v, as) (pc, L, st, S) = some (oc, X')) (hc : ∀ q, oc = some q → q) (hz : zx_Z lay E p l e R s m args below meth c nL Qs X') : zx_Z lay E p l e R s m args below meth c nL Qs (pc, L, st, S) := by
  obtain ⟨hx, hb, hml, hown, hts, henv, hlok, hret, hlk, hR⟩ := F
  rcases st with _ | ⟨w, st⟩
  · simp [zx_stp] at hs
  cases hw : zx_ld b (some (some w)) with
  | none => simp [zx_stp, hw] at hs
  | some w' =>
    cases hL : zx_sto L a w' with
    | none => simp [zx_stp, hw, hL] at hs
    | some L' =>
      simp only [zx_stp, hw, hL, Option.some.injEq, Prod.mk.injEq] at hs
      obtain ⟨rfl, rfl⟩ := hs
      unfold zx_ld at hw
      split at hw
      · rename_i x h
        cases h
        cases hw
        simp only [zx_sto] at hL
        split at hL
        · rename_i ha
          cases hL
          simp only [zx_okB, Bool.and_eq_true, decide_eq_true_eq, Bool.or_eq_true] at hok
          rcases hok with ⟨⟨rfl, h4⟩, h1⟩ | ⟨rfl, h1⟩
          · exact fun H locs ls hP hS hl => lv_istore_n hx hb (zx_dd_spec h1) (zx_f4_eq h4) hl.has (by rw [← hl.2.1]; exact ha) rfl (fun ls' h' => hz H locs ls' hP hS (hl.st1 (w := .int x) ha h'))
          · exact fun H locs ls hP hS hl => lv_istore hx hb (zx_dd_spec h1) hl.has (by rw [← hl.2.1]; exact ha) rfl (fun ls' h' => hz H locs ls' hP hS (hl.st1 (w := .int x) ha h'))
        · cases hL
      · rename_i x h
        cases h
        cases hw
        simp only [zx_sto] at hL
        split at hL
        · rename_i ha
          cases hL
          simp only [zx_okB, Bool.and_eq_true, decide_eq_true_eq, Bool.or_eq_true] at hok
          rcases hok with ⟨⟨rfl, h4⟩, h1⟩ | ⟨rfl, h1⟩
          · exact fun H locs ls hP hS hl => lv_lstore_n hx hb (zx_dd_spec h1) (zx_f4_eq h4) hl.has (by rw [← hl.2.1]; exact ha) rfl (fun ls' h' => hz H locs ls' hP hS (hl.st2 (w := .long x) ha h'))
          · exact fun H locs ls hP hS hl => lv_lstore hx hb (zx_dd_spec h1) hl.has (by rw [← hl.2.1]; exact ha) rfl (fun ls' h' => hz H locs ls' hP hS (hl.st2 (w := .long x) ha h'))
        · cases hL
      · rename_i x h
        cases h
        cases hw
        simp only [zx_sto] at hL
        split at hL
        · rename_i ha
          cases hL
          simp only [zx_okB, Bool.and_eq_true, decide_eq_true_eq, Bool.or_eq_true] at hok
          rcases hok with ⟨⟨rfl, h4⟩, h1⟩ | ⟨rfl, h1⟩
          · exact fun H locs ls hP hS hl => lv_astore_n hx hb (zx_dd_spec h1) (zx_f4_eq h4) hl.has (by rw [← hl.2.1]; exact ha) rfl (fun ls' h' => hz H locs ls' hP hS (hl.st1 (w := .ref x) ha h'))
          · exact fun H locs ls hP hS hl => lv_astore hx hb (zx_dd_spec h1) hl.has (by rw [← hl.2.1]; exact ha) rfl (fun ls' h' => hz H locs ls' hP hS (hl.st1 (w := .ref x) ha h'))
        · cases hL
      · cases hw
theorem zx_k3 (F : zx_F lay ro E o cc nL d ret p R s m args meth c) (hok : zx_okB o ret cc pc n (3, a, b, v, as) = true) (hs : zx_stp lay ro n (3, a, b, v, as) (pc, L, st, S) = some (oc, X')) (hc : ∀ q, oc = some q → q) (hz : zx_Z lay E p l e R s m args below meth c nL Qs X') : zx_Z lay E p l e R s m args below meth c nL Qs (pc, L, st, S) := by
  obtain ⟨hx, hb, hml, hown, hts, henv, hlok, hret, hlk, hR⟩ := F
  cases h : L[a]? with
  | none => simp [zx_stp, h] at hs
  | some w =>
    rcases w with _ | (x | _ | _ | _ | _ | _ | _) <;> try (simp [zx_stp, h] at hs; done)
    rcases v with dx | _ | _ | _ | _ | _ | _ <;> try (simp [zx_stp, h] at hs; done)
    cases hL : zx_sto L a (.int (x + dx)) with
    | none => simp [zx_stp, h, hL] at hs
    | some L' =>
      simp only [zx_stp, h, hL, Option.some.injEq, Prod.mk.injEq] at hs
      obtain ⟨rfl, rfl⟩ := hs
      simp only [zx_sto] at hL
      split at hL
      · rename_i ha
        cases hL
        simp only [zx_okB, Bool.and_eq_true, decide_eq_true_eq, Bool.or_eq_true] at hok
        obtain ⟨rfl, h1⟩ := hok
        intro H locs ls hP hS hl
        obtain ⟨k, hk⟩ := List.getElem?_of_mem (zx_ls_mem (r := E.2.1) h)
        exact lv_iinc hx hb (zx_dd_spec h1) hl.has hk (by rw [Int32.ofInt_toInt]) (by rw [← hl.2.1]; exact ha) rfl (fun ls' h' => hz H locs ls' hP hS (hl.st1 (w := .int (x + dx)) ha h'))
      · cases hL
theorem zx_k4 (F : zx_F lay ro E o cc nL d ret p R s m args meth c) (hok : zx_okB o ret cc pc n (4, a, b, v, as) = true) (hs : zx_stp lay ro n (4, a, b, v, as) (pc, L, st, S) = some (oc, X')) (hc : ∀ q, oc = some q → q) (hz : zx_Z lay E p l e R s m args below meth c nL Qs X') : zx_Z lay E p l e R s m args below meth c nL Qs (pc, L, st, S) := by
  obtain ⟨hx, hb, hml, hown, hts, henv, hlok, hret, hlk, hR⟩ := F
  rcases st with _ | ⟨y, _ | ⟨x, st⟩⟩
  · simp [zx_stp] at hs
  · simp [zx_stp] at hs
  cases hw : zx_bin b x y with
  | none => simp [zx_stp, hw] at hs
  | some w =>
    simp only [zx_stp, hw, Option.some.injEq, Prod.mk.injEq] at hs
    obtain ⟨rfl, rfl⟩ := hs
    unfold zx_bin at hw
    split at hw
    · cases hw
      simp only [zx_okB, zx_in4, Bool.and_eq_true, decide_eq_true_eq, Bool.or_eq_true] at hok
      obtain ⟨rfl, h1⟩ := hok
      exact fun H locs ls hP hS hl => lv_iadd hx hb (zx_dd_spec h1) (hz H locs ls hP hS hl)
    · cases hw
      simp only [zx_okB, zx_in4, Bool.and_eq_true, decide_eq_true_eq, Bool.or_eq_true] at hok
      obtain ⟨rfl, h1⟩ := hok
      exact fun H locs ls hP hS hl => lv_isub hx hb (zx_dd_spec h1) (hz H locs ls hP hS hl)
    · cases hw
      simp only [zx_okB, zx_in4, Bool.and_eq_true, decide_eq_true_eq, Bool.or_eq_true] at hok
      obtain ⟨rfl, h1⟩ := hok
      exact fun H locs ls hP hS hl => lv_imul hx hb (zx_dd_spec h1) (hz H locs ls hP hS hl)
    · split at hw
      · cases hw
      · rename_i hy
        cases hw
        simp only [zx_okB, zx_in4, Bool.and_eq_true, decide_eq_true_eq, Bool.or_eq_true] at hok
        obtain ⟨rfl, h1⟩ := hok
        exact fun H locs ls hP hS hl => lv_idiv hx hb (zx_dd_spec h1) hy (hz H locs ls hP hS hl)
    · split at hw
      · cases hw
      · rename_i hy
        cases hw
        simp only [zx_okB, zx_in4, Bool.and_eq_true, decide_eq_true_eq, Bool.or_eq_true] at hok
        obtain ⟨rfl, h1⟩ := hok
        exact fun H locs ls hP hS hl => lv_irem hx hb (zx_dd_spec h1) hy (hz H locs ls hP hS hl)
    · cases hw
      simp only [zx_okB, zx_in4, Bool.and_eq_true, decide_eq_true_eq, Bool.or_eq_true] at hok
      obtain ⟨rfl, h1⟩ := hok
      exact fun H locs ls hP hS hl => lv_iand hx hb (zx_dd_spec h1) (hz H locs ls hP hS hl)
    · cases hw
      simp only [zx_okB, zx_in4, Bool.and_eq_true, decide_eq_true_eq, Bool.or_eq_true] at hok
      obtain ⟨rfl, h1⟩ := hok
      exact fun H locs ls hP hS hl => lv_ior hx hb (zx_dd_spec h1) (hz H locs ls hP hS hl)
    · cases hw
      simp only [zx_okB, zx_in4, Bool.and_eq_true, decide_eq_true_eq, Bool.or_eq_true] at hok
      obtain ⟨rfl, h1⟩ := hok
      exact fun H locs ls hP hS hl => lv_ishl hx hb (zx_dd_spec h1) (hz H locs ls hP hS hl)
    · cases hw
      simp only [zx_okB, zx_in4, Bool.and_eq_true, decide_eq_true_eq, Bool.or_eq_true] at hok
      obtain ⟨rfl, h1⟩ := hok
      exact fun H locs ls hP hS hl => lv_ishr hx hb (zx_dd_spec h1) (hz H locs ls hP hS hl)
    · cases hw
      simp only [zx_okB, zx_in4, Bool.and_eq_true, decide_eq_true_eq, Bool.or_eq_true] at hok
      obtain ⟨rfl, h1⟩ := hok
      exact fun H locs ls hP hS hl => lv_iushr hx hb (zx_dd_spec h1) rfl (hz H locs ls hP hS hl)
    · cases hw
      simp only [zx_okB, zx_in4, Bool.and_eq_true, decide_eq_true_eq, Bool.or_eq_true] at hok
      obtain ⟨rfl, h1⟩ := hok
      exact fun H locs ls hP hS hl => lv_ladd hx hb (zx_dd_spec h1) (hz H locs ls hP hS hl)
    · cases hw
      simp only [zx_okB, zx_in4, Bool.and_eq_true, decide_eq_true_eq, Bool.or_eq_true] at hok
      obtain ⟨rfl, h1⟩ := hok
      exact fun H locs ls hP hS hl => lv_lsub hx hb (zx_dd_spec h1) (hz H locs ls hP hS hl)
    · cases hw
      simp only [zx_okB, zx_in4, Bool.and_eq_true, decide_eq_true_eq, Bool.or_eq_true] at hok
      obtain ⟨rfl, h1⟩ := hok
      exact fun H locs ls hP hS hl => lv_lmul hx hb (zx_dd_spec h1) (hz H locs ls hP hS hl)
    · split at hw
      · cases hw
      · rename_i hy
        cases hw
        simp only [zx_okB, zx_in4, Bool.and_eq_true, decide_eq_true_eq, Bool.or_eq_true] at hok
        obtain ⟨rfl, h1⟩ := hok
        exact fun H locs ls hP hS hl => lv_ldiv hx hb (zx_dd_spec h1) hy (hz H locs ls hP hS hl)
    · cases hw
      simp only [zx_okB, zx_in4, Bool.and_eq_true, decide_eq_true_eq, Bool.or_eq_true] at hok
      obtain ⟨rfl, h1⟩ := hok
      exact fun H locs ls hP hS hl => lv_land hx hb (zx_dd_spec h1) (hz H locs ls hP hS hl)
    · cases hw
      simp only [zx_okB, zx_in4, Bool.and_eq_true, decide_eq_true_eq, Bool.or_eq_true] at hok
      obtain ⟨rfl, h1⟩ := hok
      exact fun H locs ls hP hS hl => lv_lor hx hb (zx_dd_spec h1) (hz H locs ls hP hS hl)
    · cases hw
      simp only [zx_okB, zx_in4, Bool.and_eq_true, decide_eq_true_eq, Bool.or_eq_true] at hok
      obtain ⟨rfl, h1⟩ := hok
      exact fun H locs ls hP hS hl => lv_lxor hx hb (zx_dd_spec h1) (hz H locs ls hP hS hl)
    · cases hw
      simp only [zx_okB, zx_in4, Bool.and_eq_true, decide_eq_true_eq, Bool.or_eq_true] at hok
      obtain ⟨rfl, h1⟩ := hok
      exact fun H locs ls hP hS hl => lv_lshl hx hb (zx_dd_spec h1) rfl (hz H locs ls hP hS hl)
    · cases hw
      simp only [zx_okB, zx_in4, Bool.and_eq_true, decide_eq_true_eq, Bool.or_eq_true] at hok
      obtain ⟨rfl, h1⟩ := hok
      exact fun H locs ls hP hS hl => lv_lshr hx hb (zx_dd_spec h1) rfl (hz H locs ls hP hS hl)
    · cases hw
      simp only [zx_okB, zx_in4, Bool.and_eq_true, decide_eq_true_eq, Bool.or_eq_true] at hok
      obtain ⟨rfl, h1⟩ := hok
      exact fun H locs ls hP hS hl => lv_lushr hx hb (zx_dd_spec h1) rfl (hz H locs ls hP hS hl)
    · cases hw
theorem zx_k5 (F : zx_F lay ro E o cc nL d ret p R s m args meth c) (hok : zx_okB o ret cc pc n (5, a, b, v, as) = true) (hs : zx_stp lay ro n (5, a, b, v, as) (pc, L, st, S) = some (oc, X')) (hc : ∀ q, oc = some q → q) (hz : zx_Z lay E p l e R s m args below meth c nL Qs X') : zx_Z lay E p l e R s m args below meth c nL Qs (pc, L, st, S) := by
  obtain ⟨hx, hb, hml, hown, hts, henv, hlok, hret, hlk, hR⟩ := F
  simp only [zx_stp] at hs
  split at hs
  · simp only [Option.some.injEq, Prod.mk.injEq] at hs
    obtain ⟨rfl, rfl⟩ := hs
    simp only [zx_okB, Bool.and_eq_true, decide_eq_true_eq, Bool.or_eq_true] at hok
    obtain ⟨rfl, h1⟩ := hok
    exact fun H locs ls hP hS hl => lv_i2l hx hb (zx_dd_spec h1) rfl (hz H locs ls hP hS hl)
  · simp only [Option.some.injEq, Prod.mk.injEq] at hs
    obtain ⟨rfl, rfl⟩ := hs
    simp only [zx_okB, Bool.and_eq_true, decide_eq_true_eq, Bool.or_eq_true] at hok
    obtain ⟨rfl, h1⟩ := hok
    exact fun H locs ls hP hS hl => lv_l2i hx hb (zx_dd_spec h1) rfl (hz H locs ls hP hS hl)
  · cases hs
theorem zx_k6 (F : zx_F lay ro E o cc nL d ret p R s m args meth c) (hok : zx_okB o ret cc pc n (6, a, b, v, as) = true) (hs : zx_stp lay ro n (6, a, b, v, as) (pc, L, st, S) = some (oc, X')) (hc : ∀ q, oc = some q → q) (hz : zx_Z lay E p l e R s m args below meth c nL Qs X') : zx_Z lay E p l e R s m args below meth c nL Qs (pc, L, st, S) := by
  obtain ⟨hx, hb, hml, hown, hts, henv, hlok, hret, hlk, hR⟩ := F
  simp only [zx_stp, Option.some.injEq, Prod.mk.injEq] at hs
  obtain ⟨rfl, rfl⟩ := hs
  simp only [zx_okB, Bool.and_eq_true, decide_eq_true_eq, Bool.or_eq_true] at hok
  obtain ⟨rfl, h1⟩ := hok
  exact fun H locs ls hP hS hl => lv_goto hx hb (zx_dd_spec h1) (by omega) (hz H locs ls hP hS hl)
theorem zx_same {ref own' nm ds : String} (h : ref = own' ∨ Cond.sameField ref own' nm ds ∈ zx_WS) (hts : ∀ w ∈ zx_WS, w.before args s = true) : ∀ x, s.fieldFound? own' nm ds = some x → s.fieldFound? ref nm ds = some x := by
  rcases h with rfl | h
  · exact fun _ h => h
  · exact fun x hx => u_same (hts _ h) x hx
theorem zx_k7 (F : zx_F lay ro E o cc nL d ret p R s m args meth c) (hok : zx_okB o ret cc pc n (7, a, b, v, as) = true) (hs : zx_stp lay ro n (7, a, b, v, as) (pc, L, st, S) = some (oc, X')) (hc : ∀ q, oc = some q → q) (hz : zx_Z lay E p l e R s m args below meth c nL Qs X') : zx_Z lay E p l e R s m args below meth c nL Qs (pc, L, st, S) := by
  obtain ⟨hx, hb, hml, hown, hts, henv, hlok, hret, hlk, hR⟩ := F
  rcases st with _ | ⟨q0, st⟩
  · simp [zx_stp] at hs
  rcases q0 with _ | _ | _ | _ | _ | q | _ <;> try (simp [zx_stp] at hs; done)
  cases hg : zx_gf lay S as q with
  | none => simp [zx_stp, hg] at hs
  | some w =>
    simp only [zx_stp, hg, Option.some.injEq, Prod.mk.injEq] at hs
    obtain ⟨rfl, rfl⟩ := hs
    simp only [zx_okB, Bool.and_eq_true, decide_eq_true_eq, Bool.or_eq_true, List.all_eq_true] at hok
    obtain ⟨⟨rfl, h1⟩, h2⟩ := hok
    unfold zx_gf at hg
    split at hg
    · rename_i ci ks hlay
      split at hg
      · rename_i k hk
        obtain ⟨C, T, N, ref, g1, g2, g3, g4, g5⟩ := zx_ftab_ok _ (h2 _ (zx_find_mem _ _ _ hk))
        have key : ∀ kd, ks[k]? = some kd → zx_v E.2.1 w = zx_fv E S q k kd → zx_Z lay E p l e R s m args below meth c nL Qs (pc, L, .ref q :: st, S) := by
          intro kd hkd he H locs ls hP hS hl
          refine va_get (D := E.1) (ci := ci) (v := zx_v E.2.1 w) hx hb hts g4 hown henv.1 hP q (zx_w_at hlay) g1 k g2 (hts _ g3) (zx_same g5 hts) ?_ (zx_dd_spec h1) (hz H locs ls hP hS hl)
          simp [List.getElem?_mapIdx, hkd, he]
        split at hg
        · rename_i hkd; cases hg; exact key _ hkd rfl
        · rename_i hkd; cases hg; exact key _ hkd rfl
        · rename_i hkd; cases hg; exact key _ hkd rfl
        · rename_i kd _ _ _ hkd
          split at hg
          · rename_i h100
            cases hg
            exact key _ hkd (by simp [zx_fv, zx_v, h100])
          · rename_i h100
            split at hg
            · rename_i h50
              split at hg
              · rename_i q' hq'
                cases hg
                exact key _ hkd (by simp [zx_fv, zx_v, h100, h50, List.getD_eq_getElem?_getD, hq'])
              · cases hg
            · cases hg
        · cases hg
      · cases hg
    · cases hg
theorem zx_k8 (F : zx_F lay ro E o cc nL d ret p R s m args meth c) (hok : zx_okB o ret cc pc n (8, a, b, v, as) = true) (hs : zx_stp lay ro n (8, a, b, v, as) (pc, L, st, S) = some (oc, X')) (hc : ∀ q, oc = some q → q) (hz : zx_Z lay E p l e R s m args below meth c nL Qs X') : zx_Z lay E p l e R s m args below meth c nL Qs (pc, L, st, S) := by
  obtain ⟨hx, hb, hml, hown, hts, henv, hlok, hret, hlk, hR⟩ := F
  rcases st with _ | ⟨w, _ | ⟨q0, st⟩⟩
  · simp [zx_stp] at hs
  · simp [zx_stp] at hs
  rcases q0 with _ | _ | _ | _ | _ | q | _ <;> try (simp [zx_stp] at hs; done)
  cases hg : zx_pf lay S as q w with
  | none => simp [zx_stp, hg] at hs
  | some r =>
    obtain ⟨oc', S'⟩ := r
    simp only [zx_stp, hg, Option.some.injEq, Prod.mk.injEq] at hs
    obtain ⟨rfl, rfl⟩ := hs
    simp only [zx_okB, Bool.and_eq_true, decide_eq_true_eq, Bool.or_eq_true, List.all_eq_true] at hok
    obtain ⟨⟨rfl, h1⟩, h2⟩ := hok
    unfold zx_pf at hg
    split at hg
    · rename_i ci ks hlay
      split at hg
      · rename_i k hk
        obtain ⟨h3, h4⟩ := h2 _ (zx_find_mem _ _ _ hk)
        obtain ⟨C, T, N, ref, g1, g2, g3, g4, g5⟩ := zx_ftab_ok _ h3
        obtain ⟨C', T', N', ty0, ty, f1, f2, f3, f4, f5, f6⟩ := zx_ptab_ok _ h4
        have hCT : (C, T, N) = (C', T', N') := Option.some.inj (g1.symm.trans f1)
        cases hCT
        have hks := hlok.1 q ci ks hlay
        have hkk : ∀ kd, ks[k]? = some kd → (zx_kd ci)[k]? = some (zx_kt kd) := fun kd h => by rw [← hks, List.getElem?_map, h]; rfl
        obtain ⟨r, D⟩ := S
        have key : ∀ (w' : Value) (S1 : zx_S), k < ks.length → narrow ty w' = w' → fits ty w' = true → (zx_w lay E (r, D)).set q (E.2.1 q, .inr (ci, (ks.mapIdx (fun k kind => zx_fv E (r, D) q k kind)).set k w')) = zx_w lay E S1 → zx_Z lay E p l e R s m args below meth c nL Qs (pc + 3, L, st, S1) → zx_v E.2.1 w = w' → zx_Z lay E p l e R s m args below meth c nL Qs (pc, L, w :: .ref q :: st, r, D) := by
          intro w' S1 hlen hn hf hw hz' he H locs ls hP hS hl
          subst he
          refine va_put (D := E.1) (ci := ci) (v := zx_v E.2.1 w) (ty := ty) hx hb hts g4 ty0 f2 f3 hown henv.1 hP (zx_Dn henv.2.2.2.2) hS q (zx_w_at hlay) g1 k g2 (hts _ g3) (zx_same g5 hts) f4 f5 hn hf (by simpa using hlen) (zx_dd_spec h1) (fun H1 locs1 hP1 _ hS1 => hz' H1 locs1 ls ?_ hS1 hl)
          show va_P E.1 zx_cl (zx_w lay E S1) H1
          rw [← hw]
          exact hP1
        split at hg
        · rename_i x hkd
          cases hg
          have hl' : k < ks.length := (List.getElem?_eq_some_iff.mp hkd).1
          have ht : ty = .int := by rw [hkk _ hkd] at f6; exact f6
          subst ht
          exact key (.int x) _ hl' rfl rfl (zx_put_i hlay hkd (Or.inl rfl)) hz rfl
        · rename_i x hkd
          cases hg
          have hl' : k < ks.length := (List.getElem?_eq_some_iff.mp hkd).1
          have ht : ty = .long := by rw [hkk _ hkd] at f6; exact f6
          subst ht
          exact key (.long x) _ hl' rfl rfl (zx_put_l hlay hkd) hz rfl
        · rename_i x hkd
          cases hg
          have hl' : k < ks.length := (List.getElem?_eq_some_iff.mp hkd).1
          have ht : ty = .boolean := by rw [hkk _ hkd] at f6; exact f6
          subst ht
          have hcx := hc _ rfl
          refine key (.int x) _ hl' ?_ ?_ (zx_put_i hlay hkd (Or.inr rfl)) hz rfl
          · rcases hcx with rfl | rfl <;> decide
          · rcases hcx with rfl | rfl <;> decide
        · rename_i kd x hkd
          split at hg
          · rename_i h5
            cases hg
            have hl' : k < ks.length := (List.getElem?_eq_some_iff.mp hkd).1
            have ht : (∃ c, ty = .object c) ∨ ∃ t, ty = .array t := by rw [hkk _ hkd, show zx_kt kd = 2 by simp [zx_kt, h5.1]] at f6; exact f6
            refine key (.ref (E.2.1 x)) _ hl' ?_ ?_ (zx_put_r hlok.2 hlay hkd h5) hz rfl
            · rcases ht with ⟨_, rfl⟩ | ⟨_, rfl⟩ <;> rfl
            · rcases ht with ⟨_, rfl⟩ | ⟨_, rfl⟩ <;> rfl
          · cases hg
        · cases hg
      · cases hg
    · cases hg
theorem zx_k9 (F : zx_F lay ro E o cc nL d ret p R s m args meth c) (hok : zx_okB o ret cc pc n (9, a, b, v, as) = true) (hs : zx_stp lay ro n (9, a, b, v, as) (pc, L, st, S) = some (oc, X')) (hc : ∀ q, oc = some q → q) (hz : zx_Z lay E p l e R s m args below meth c nL Qs X') : zx_Z lay E p l e R s m args below meth c nL Qs (pc, L, st, S) := by
  obtain ⟨hx, hb, hml, hown, hts, henv, hlok, hret, hlk, hR⟩ := F
  rcases st with _ | ⟨i0, _ | ⟨q0, st⟩⟩
  · simp [zx_stp] at hs
  · cases i0 <;> simp [zx_stp] at hs
  rcases i0 with i | _ | _ | _ | _ | _ | _ <;> try (simp [zx_stp] at hs; done)
  rcases q0 with _ | _ | _ | _ | _ | q | _ <;> try (simp [zx_stp] at hs; done)
  cases hg : zx_ald lay ro S b q i with
  | none => simp [zx_stp, hg] at hs
  | some r =>
    obtain ⟨c', w⟩ := r
    simp only [zx_stp, hg, Option.some.injEq, Prod.mk.injEq] at hs
    obtain ⟨rfl, rfl⟩ := hs
    have hcx := hc _ rfl
    unfold zx_ald at hg
    split at hg
    · rename_i k hlay
      cases hg
      simp only [zx_okB, Bool.and_eq_true, decide_eq_true_eq, Bool.or_eq_true] at hok
      obtain ⟨rfl, h1⟩ := hok
      exact fun H locs ls hP hS hl => va_iald hx hb henv.1 hP q 0 (zx_w_at hlay) rfl hcx (zx_dd_spec h1) (hz H locs ls hP hS hl)
    · rename_i k hlay
      cases hg
      simp only [zx_okB, Bool.and_eq_true, decide_eq_true_eq, Bool.or_eq_true] at hok
      obtain ⟨rfl, h1⟩ := hok
      exact fun H locs ls hP hS hl => va_lald hx hb henv.1 hP q 1 (zx_w_at hlay) rfl hcx (zx_dd_spec h1) (hz H locs ls hP hS hl)
    · split at hg
      · rename_i hq
        cases hg
        subst hq
        simp only [zx_okB, Bool.and_eq_true, decide_eq_true_eq, Bool.or_eq_true] at hok
        obtain ⟨rfl, h1⟩ := hok
        exact fun H locs ls hP hS hl => va_ti hx hb henv.2.2.1 hS hcx rfl (zx_dd_spec h1) (hz H locs ls hP hS hl)
      · cases hg
    · cases hg
theorem zx_k10 (F : zx_F lay ro E o cc nL d ret p R s m args meth c) (hok : zx_okB o ret cc pc n (10, a, b, v, as) = true) (hs : zx_stp lay ro n (10, a, b, v, as) (pc, L, st, S) = some (oc, X')) (hc : ∀ q, oc = some q → q) (hz : zx_Z lay E p l e R s m args below meth c nL Qs X') : zx_Z lay E p l e R s m args below meth c nL Qs (pc, L, st, S) := by
  obtain ⟨hx, hb, hml, hown, hts, henv, hlok, hret, hlk, hR⟩ := F
  rcases st with _ | ⟨w, _ | ⟨i0, _ | ⟨q0, st⟩⟩⟩
  · simp [zx_stp] at hs
  · simp [zx_stp] at hs
  · cases i0 <;> simp [zx_stp] at hs
  rcases i0 with i | _ | _ | _ | _ | _ | _ <;> try (simp [zx_stp] at hs; done)
  rcases q0 with _ | _ | _ | _ | _ | q | _ <;> try (simp [zx_stp] at hs; done)
  cases hg : zx_ast lay S b q i w with
  | none => simp [zx_stp, hg] at hs
  | some r =>
    obtain ⟨c', S'⟩ := r
    simp only [zx_stp, hg, Option.some.injEq, Prod.mk.injEq] at hs
    obtain ⟨rfl, rfl⟩ := hs
    have hcx := hc _ rfl
    unfold zx_ast at hg
    split at hg
    · rename_i k x hlay
      cases hg
      simp only [zx_okB, Bool.and_eq_true, decide_eq_true_eq, Bool.or_eq_true] at hok
      obtain ⟨rfl, h1⟩ := hok
      refine fun H locs ls hP hS hl => va_iast hx hb henv.1 hP (zx_Dn henv.2.2.2.2) hS q 0 (zx_w_at hlay) rfl hcx (zx_dd_spec h1) (fun H1 locs1 hP1 _ hS1 => hz H1 locs1 ls ?_ hS1 hl)
      obtain ⟨r, D⟩ := S
      show va_P E.1 zx_cl (zx_w lay E (r, zp_i D q (zn i) x)) H1
      rw [← zx_put_ai hlay]
      exact hP1
    · rename_i k x hlay
      cases hg
      simp only [zx_okB, Bool.and_eq_true, decide_eq_true_eq, Bool.or_eq_true] at hok
      obtain ⟨rfl, h1⟩ := hok
      refine fun H locs ls hP hS hl => va_last hx hb henv.1 hP (zx_Dn henv.2.2.2.2) hS q 1 (zx_w_at hlay) rfl hcx (zx_dd_spec h1) (fun H1 locs1 hP1 _ hS1 => hz H1 locs1 ls ?_ hS1 hl)
      obtain ⟨r, D⟩ := S
      show va_P E.1 zx_cl (zx_w lay E (r, zp_l D q (zn i) x)) H1
      rw [← zx_put_al hlay]
      exact hP1
    · cases hg
theorem zx_k11 (F : zx_F lay ro E o cc nL d ret p R s m args meth c) (hok : zx_okB o ret cc pc n (11, a, b, v, as) = true) (hs : zx_stp lay ro n (11, a, b, v, as) (pc, L, st, S) = some (oc, X')) (hc : ∀ q, oc = some q → q) (hz : zx_Z lay E p l e R s m args below meth c nL Qs X') : zx_Z lay E p l e R s m args below meth c nL Qs (pc, L, st, S) := by
  obtain ⟨hx, hb, hml, hown, hts, henv, hlok, hret, hlk, hR⟩ := F
  rcases st with _ | ⟨q0, st⟩
  · simp [zx_stp] at hs
  rcases q0 with _ | _ | _ | _ | _ | q | _ <;> try (simp [zx_stp] at hs; done)
  cases hg : zx_aln lay ro q with
  | none => simp [zx_stp, hg] at hs
  | some x =>
    simp only [zx_stp, hg, Option.some.injEq, Prod.mk.injEq] at hs
    obtain ⟨rfl, rfl⟩ := hs
    simp only [zx_okB, Bool.and_eq_true, decide_eq_true_eq, Bool.or_eq_true] at hok
    obtain ⟨rfl, h1⟩ := hok
    unfold zx_aln at hg
    split at hg
    · rename_i k bb hlay
      cases hg
      cases bb
      · exact fun H locs ls hP hS hl => va_alen hx hb henv.1 hP q 0 (zx_w_at hlay) rfl rfl (zx_dd_spec h1) (hz H locs ls hP hS hl)
      · exact fun H locs ls hP hS hl => va_alen hx hb henv.1 hP q 1 (zx_w_at hlay) rfl rfl (zx_dd_spec h1) (hz H locs ls hP hS hl)
    · cases hg
    · split at hg
      · rename_i hq
        cases hg
        subst hq
        exact fun H locs ls hP hS hl => va_tlen hx hb henv.2.2.1 hS rfl (zx_dd_spec h1) (hz H locs ls hP hS hl)
      · cases hg
theorem zx_k12 (F : zx_F lay ro E o cc nL d ret p R s m args meth c) (hok : zx_okB o ret cc pc n (12, a, b, v, as) = true) (hs : zx_stp lay ro n (12, a, b, v, as) (pc, L, st, S) = some (oc, X')) (hc : ∀ q, oc = some q → q) (hz : zx_Z lay E p l e R s m args below meth c nL Qs X') : zx_Z lay E p l e R s m args below meth c nL Qs (pc, L, st, S) := by
  obtain ⟨hx, hb, hml, hown, hts, henv, hlok, hret, hlk, hR⟩ := F
  simp only [zx_stp] at hs
  simp only [zx_okB, Bool.and_eq_true, decide_eq_true_eq, Bool.or_eq_true] at hok
  obtain ⟨rfl, h1⟩ := hok
  split at hs
  · simp only [Option.some.injEq, Prod.mk.injEq] at hs
    obtain ⟨rfl, rfl⟩ := hs
    exact fun H locs ls hP hS hl => lv_dup hx hb (zx_dd_spec h1) rfl (hz H locs ls hP hS hl)
  · simp only [Option.some.injEq, Prod.mk.injEq] at hs
    obtain ⟨rfl, rfl⟩ := hs
    exact fun H locs ls hP hS hl => lv_dup hx hb (zx_dd_spec h1) rfl (hz H locs ls hP hS hl)
  · cases hs
theorem zx_k13 (F : zx_F lay ro E o cc nL d ret p R s m args meth c) (hok : zx_okB o ret cc pc n (13, a, b, v, as) = true) (hs : zx_stp lay ro n (13, a, b, v, as) (pc, L, st, S) = some (oc, X')) (hc : ∀ q, oc = some q → q) (hz : zx_Z lay E p l e R s m args below meth c nL Qs X') : zx_Z lay E p l e R s m args below meth c nL Qs (pc, L, st, S) := by
  obtain ⟨hx, hb, hml, hown, hts, henv, hlok, hret, hlk, hR⟩ := F
  simp only [zx_stp] at hs
  simp only [zx_okB, Bool.and_eq_true, decide_eq_true_eq, Bool.or_eq_true] at hok
  obtain ⟨rfl, h1⟩ := hok
  split at hs
  · simp only [Option.some.injEq, Prod.mk.injEq] at hs
    obtain ⟨rfl, rfl⟩ := hs
    exact fun H locs ls hP hS hl => lv_dup2_11 hx hb (zx_dd_spec h1) rfl rfl (hz H locs ls hP hS hl)
  · cases hs
theorem zx_k14 (F : zx_F lay ro E o cc nL d ret p R s m args meth c) (hok : zx_okB o ret cc pc n (14, a, b, v, as) = true) (hs : zx_stp lay ro n (14, a, b, v, as) (pc, L, st, S) = some (oc, X')) (hc : ∀ q, oc = some q → q) (hz : zx_Z lay E p l e R s m args below meth c nL Qs X') : zx_Z lay E p l e R s m args below meth c nL Qs (pc, L, st, S) := by
  obtain ⟨hx, hb, hml, hown, hts, henv, hlok, hret, hlk, hR⟩ := F
  simp only [zx_stp, Option.some.injEq, Prod.mk.injEq] at hs
  obtain ⟨rfl, rfl⟩ := hs
  simp only [zx_okB, Bool.and_eq_true, decide_eq_true_eq, Bool.or_eq_true] at hok
  obtain ⟨⟨rfl, h1⟩, h2⟩ := hok
  obtain ⟨ref, host, g1, g2⟩ := zx_stab_ok _ h2
  subst g2
  exact fun H locs ls hP hS hl => va_getsN hx hb henv.2.1 hS hown (va_Nw.use rfl (henv.2.2.2.1 _ g1)) (fun _ h => h) (zx_dd_spec h1) (hz H locs ls hP hS hl)
theorem zx_k15 (F : zx_F lay ro E o cc nL d ret p R s m args meth c) (hok : zx_okB o ret cc pc n (15, a, b, v, as) = true) (hs : zx_stp lay ro n (15, a, b, v, as) (pc, L, st, S) = some (oc, X')) (hc : ∀ q, oc = some q → q) (hz : zx_Z lay E p l e R s m args below meth c nL Qs X') : zx_Z lay E p l e R s m args below meth c nL Qs (pc, L, st, S) := by
  obtain ⟨hx, hb, hml, hown, hts, henv, hlok, hret, hlk, hR⟩ := F
  subst hR
  simp only [zx_stp] at hs
  split at hs
  · split at hs
    · rename_i hw
      simp only [Option.some.injEq, Prod.mk.injEq] at hs
      obtain ⟨rfl, rfl⟩ := hs
      simp only [zx_okB, Bool.and_eq_true, decide_eq_true_eq, Bool.or_eq_true] at hok
      obtain ⟨⟨rfl, h1⟩, h2⟩ := hok
      obtain ⟨g1, g2, g3, g4⟩ := zx_mintab_ok _ h2
      exact fun H locs ls hP hS hl => va_mmin hx hb (by rw [hml, hl.1]) hown (hts _ g1) (hts _ g2) (hts _ g3) (hts _ g4) (by simp [zx_rm]) (by rw [zx_wd_sum]; simp only [zx_rm]; omega) (by simp [zx_rm]) (by simp [zx_rm]) (zx_dd_spec h1) (hz H locs ls hP hS hl)
    · cases hs
  · split at hs
    · rename_i hw
      simp only [Option.some.injEq, Prod.mk.injEq] at hs
      obtain ⟨rfl, rfl⟩ := hs
      simp only [zx_okB, Bool.and_eq_true, decide_eq_true_eq, Bool.or_eq_true] at hok
      obtain ⟨⟨rfl, h1⟩, h2⟩ := hok
      obtain ⟨g1, g2, g3, g4⟩ := zx_maxtab_ok _ h2
      exact fun H locs ls hP hS hl => va_mmax hx hb (by rw [hml, hl.1]) hown (hts _ g1) (hts _ g2) (hts _ g3) (hts _ g4) (by simp [zx_rm]) (by rw [zx_wd_sum]; simp only [zx_rm]; omega) (by simp [zx_rm]) (by simp [zx_rm]) (zx_dd_spec h1) (hz H locs ls hP hS hl)
    · cases hs
  · cases hs
theorem zx_k16 (F : zx_F lay ro E o cc nL d ret p R s m args meth c) (hok : zx_okB o ret cc pc n (16, a, b, v, as) = true) (hs : zx_stp lay ro n (16, a, b, v, as) (pc, L, st, S) = some (oc, X')) (hc : ∀ q, oc = some q → q) (hz : zx_Z lay E p l e R s m args below meth c nL Qs X') : zx_Z lay E p l e R s m args below meth c nL Qs (pc, L, st, S) := by
  obtain ⟨hx, hb, hml, hown, hts, henv, hlok, hret, hlk, hR⟩ := F
  subst hR
  simp only [zx_stp] at hs
  split at hs
  · rename_i k dp q sp r st'
    split at hs
    · rename_i n0 n1 hl0 hl1
      split at hs
      · rename_i hw
        simp only [Option.some.injEq, Prod.mk.injEq] at hs
        obtain ⟨rfl, rfl⟩ := hs
        simp only [zx_okB, Bool.and_eq_true, decide_eq_true_eq, Bool.or_eq_true] at hok
        obtain ⟨⟨rfl, h1⟩, h2⟩ := hok
        obtain ⟨g1, g2, g3, g4⟩ := zx_cpytab_ok _ h2
        obtain ⟨c1, c2, c3, c4, c5⟩ := hc _ rfl
        refine fun H locs ls hP hS hl => va_copyi hx hb (by rw [hml, hl.1]) hown (hts _ g1) (hts _ g2) (hts _ g3) (hts _ g4) henv.1 hP (zx_Dn henv.2.2.2.2) hS r q 0 0 (ty := .int) (zx_w_at hl0) (zx_w_at hl1) rfl rfl rfl c1 c2 c3 c4 c5 (fun _ _ => rfl) (by simp [zx_rm]) (by rw [zx_wd_sum]; simp only [zx_rm]; have : nativeFrameWords "java/lang/System" "arraycopy" 5 ≤ 20 := (by decide +kernel); omega) (zx_dd_spec h1) (fun H1 locs1 hP1 _ hS1 => hz H1 locs1 ls ?_ hS1 hl)
        obtain ⟨r0, D⟩ := S
        show va_P E.1 zx_cl (zx_w lay E (r0, zp_a D q (va_cpy (D.1 r) (D.1 q) (zn sp) (zn dp) (zn k)))) H1
        rw [← zx_put_aa hl1]
        exact hP1
      · cases hs
    · cases hs
  · cases hs
theorem zx_kAll (F : zx_F lay ro E o cc nL d ret p R s m args meth c) {I : zx_I} {X : zx_X} (hok : zx_okB o ret cc X.1 n I = true) (hs : zx_stp lay ro n I X = some (oc, X')) (hc : ∀ q, oc = some q → q) (hz : zx_Z lay E p l e R s m args below meth c nL Qs X') : zx_Z lay E p l e R s m args below meth c nL Qs X := by
  obtain ⟨op, a, b, v, as⟩ := I
  obtain ⟨pc, L, st, S⟩ := X
  match op, hok, hs with
  | 0, hok, hs => exact zx_k0 F hok hs hc hz
  | 1, hok, hs => exact zx_k1 F hok hs hc hz
  | 2, hok, hs => exact zx_k2 F hok hs hc hz
  | 3, hok, hs => exact zx_k3 F hok hs hc hz
  | 4, hok, hs => exact zx_k4 F hok hs hc hz
  | 5, hok, hs => exact zx_k5 F hok hs hc hz
  | 6, hok, hs => exact zx_k6 F hok hs hc hz
  | 7, hok, hs => exact zx_k7 F hok hs hc hz
  | 8, hok, hs => exact zx_k8 F hok hs hc hz
  | 9, hok, hs => exact zx_k9 F hok hs hc hz
  | 10, hok, hs => exact zx_k10 F hok hs hc hz
  | 11, hok, hs => exact zx_k11 F hok hs hc hz
  | 12, hok, hs => exact zx_k12 F hok hs hc hz
  | 13, hok, hs => exact zx_k13 F hok hs hc hz
  | 14, hok, hs => exact zx_k14 F hok hs hc hz
  | 15, hok, hs => exact zx_k15 F hok hs hc hz
  | 16, hok, hs => exact zx_k16 F hok hs hc hz
  | k + 17, hok, hs => simp [zx_stp] at hs
end ZX
