/-! The rules that a pure proof goes by; a contract out of them -/
def zx_br (K : zx_K) (X : zx_X) : Option (Prop × zx_X × zx_X) := match zx_at K X.1 with
  | some (n, I) => zx_brn n I X
  | none => none
def zx_ca (lay : List zx_C) (K : zx_K) (X : zx_X) : Option (Nat × List Value × zx_X) := match zx_at K X.1 with
  | some (n, I) => zx_cal lay n I X
  | none => none
def zx_rt (K : zx_K) (X : zx_X) : Option (Prop × Option Value) := match zx_at K X.1 with
  | some (_, I) => zx_rtn I X
  | none => none
def zx_R (mt : List zx_Y) (lay : List zx_C) (ro : Nat × (Nat → Int32)) (l : Launch) (E : zx_E) (K : zx_K) (d : Nat) (Q : Option Value → zx_S → Prop) (Zp : zx_X → Prop) : Prop :=
  (∀ (k : Nat) (P : Prop) (X : zx_X) (P' : Prop) (X' : zx_X), zx_run lay ro K k P X = some (P', X') → P' → Zp X' → Zp X) ∧
  (∀ (X : zx_X) (q : Prop) (X1 X2 : zx_X), zx_br K X = some (q, X1, X2) → (q → Zp X1) → (¬ q → Zp X2) → Zp X) ∧
  (∀ (X : zx_X) (k : Nat) (av : List Value) (X1 : zx_X) (Q' : Option Value → zx_S → Prop) (dd : Nat), zx_ca lay K X = some (k, av, X1) → dd < d → zx_Met mt lay ro l E k dd av X.2.2.2 Q' → (∀ (r : Option Value) (S' : zx_S), Q' r S' → Zp (X1.1, X1.2.1, r.toList ++ X1.2.2.1, S')) → Zp X) ∧
  (∀ (X : zx_X) (q : Prop) (r : Option Value), zx_rt K X = some (q, r) → q → Q r X.2.2.2 → Zp X)
section ZX
variable {p : Program} {l : Launch} {e : Env} {R : Room} {s : State} {m : MethodId} {args : Array Value} {below : List Frame} {meth : Method} {c : Code} {Qs : State → Prop}
variable {lay : List zx_C} {ro : Nat × (Nat → Int32)} {E : zx_E} {o : Nat} {cc : ByteArray} {nL d : Nat} {ret : Option FieldType} {mt : List zx_Y} {K : zx_K}
theorem zx_krun (F : zx_F lay ro E o cc nL d ret p R s m args meth c) (hK : ∀ g ∈ K, zx_okK o ret cc g.2 = true) : ∀ (k : Nat) (P : Prop) (X : zx_X) (P' : Prop) (X' : zx_X), zx_run lay ro K k P X = some (P', X') → P' → P ∧ (zx_Z lay E p l e R s m args below meth c nL Qs X' → zx_Z lay E p l e R s m args below meth c nL Qs X)
  | 0, P, X, P', X', h, hp => by
    simp only [zx_run, Option.some.injEq, Prod.mk.injEq] at h
    obtain ⟨rfl, rfl⟩ := h
    exact ⟨hp, id⟩
  | k + 1, P, X, P', X', h, hp => by
    unfold zx_run at h
    split at h
    · rename_i n I hat
      have hok := zx_ok_at hK hat
      split at h
      · rename_i X1 hs
        obtain ⟨h1, h2⟩ := zx_krun F hK k P X1 P' X' h hp
        exact ⟨h1, fun hz => zx_kAll F hok hs (fun q hq => by cases hq) (h2 hz)⟩
      · rename_i c1 X1 hs
        obtain ⟨h1, h2⟩ := zx_krun F hK k (P ∧ c1) X1 P' X' h hp
        exact ⟨h1.1, fun hz => zx_kAll F hok hs (fun q hq => by cases hq; exact h1.2) (h2 hz)⟩
      · cases h
    · cases h
end ZX
/-- the locals at a method's entry -/
def zx_sl : List Value → List (Option Value)
  | [] => []
  | .long x :: r => some (.long x) :: none :: zx_sl r
  | .double x :: r => some (.double x) :: none :: zx_sl r
  | v :: r => some v :: zx_sl r
def zx_ent (nL : Nat) (av : List Value) : List (Option Value) := zx_sl av ++ List.replicate (nL - (zx_sl av).length) none
theorem zx_sl_len (r : Nat → Nat) : ∀ av : List Value, (zx_sl av).length = (lg_sl (av.map (zx_v r))).length
  | [] => rfl
  | v :: t => by
    have ih := zx_sl_len r t
    cases v <;> simp_all [zx_sl, lg_sl, zx_v, Value.category] <;> omega
theorem zx_sl_mem (r : Nat → Nat) : ∀ (av : List Value) (i j : Nat) (v : Value), (zx_sl av)[j]? = some (some v) → (i + j, zx_v r v) ∈ lv_args i (av.map (zx_v r))
  | [], i, j, v, h => by simp [zx_sl] at h
  | w :: t, i, j, v, h => by
    have wide : ∀ w' : Value, w'.category = 2 → zx_sl (w' :: t) = some w' :: none :: zx_sl t → (zx_sl (w' :: t))[j]? = some (some v) → (i + j, zx_v r v) ∈ lv_args i ((w' :: t).map (zx_v r)) := by
      intro w' hc he h
      rw [he] at h
      simp only [List.map_cons, lv_args, zx_cat, hc, if_true]
      match j, h with
      | 0, h => cases h; exact List.mem_cons_self
      | 1, h => cases h
      | j + 2, h =>
        refine List.mem_cons_of_mem _ ?_
        have := zx_sl_mem r t (i + 2) j v h
        rwa [show i + 2 + j = i + (j + 2) by omega] at this
    have slim : ∀ w' : Value, w'.category = 1 → zx_sl (w' :: t) = some w' :: zx_sl t → (zx_sl (w' :: t))[j]? = some (some v) → (i + j, zx_v r v) ∈ lv_args i ((w' :: t).map (zx_v r)) := by
      intro w' hc he h
      rw [he] at h
      have hn : ¬ (1 = 2) := by decide
      simp only [List.map_cons, lv_args, zx_cat, hc, hn, if_false]
      match j, h with
      | 0, h => cases h; exact List.mem_cons_self
      | j + 1, h =>
        refine List.mem_cons_of_mem _ ?_
        have := zx_sl_mem r t (i + 1) j v h
        rwa [show i + 1 + j = i + (j + 1) by omega] at this
    cases w with
    | long x => exact wide _ rfl rfl h
    | double x => exact wide _ rfl rfl h
    | int x => exact slim _ rfl rfl h
    | float x => exact slim _ rfl rfl h
    | null => exact slim _ rfl rfl h
    | ref x => exact slim _ rfl rfl h
    | retAddr x => exact slim _ rfl rfl h
theorem zx_ent_lv {E : zx_E} {nL : Nat} {av : List Value} (h : (zx_sl av).length ≤ nL) : zx_lv E.2.1 ((lg_sl (av.map (zx_v E.2.1)) ++ List.replicate (nL - (lg_sl (av.map (zx_v E.2.1))).length) Slot.unset).toArray) nL (zx_ent nL av) := by
  have h0 := lv_entry (av.map (zx_v E.2.1)) (n := nL) (by rw [← zx_sl_len]; exact h)
  refine ⟨h0.1, by simp [zx_ent]; omega, h0.2.1, fun i v hv => ?_⟩
  refine h0.2.2 (i, zx_v E.2.1 v) ?_
  have h1 : (zx_sl av)[i]? = some (some v) := by
    unfold zx_ent at hv
    by_cases hi : i < (zx_sl av).length
    · rwa [List.getElem?_append_left hi] at hv
    · rw [List.getElem?_append_right (by omega), List.getElem?_replicate] at hv
      split at hv <;> cases hv
  have := zx_sl_mem E.2.1 av 0 i v h1
  rwa [Nat.zero_add] at this
theorem zx_Met.of {mt : List zx_Y} {lay : List zx_C} {ro : Nat × (Nat → Int32)} {l : Launch} {E : zx_E} {k d : Nat} {av : List Value} {S : zx_S} {Q : Option Value → zx_S → Prop} {y : zx_Y} {K : zx_K} (hvt : ∀ q ∈ zx_vtab, zx_vOK mt q.1 q.2.1 q.2.2.1 q.2.2.2.1 q.2.2.2.2) (hst : ∀ q ∈ zx_stab2, zx_sOK mt q.1 q.2.1 q.2.2.1 q.2.2.2.2) (hlok : zx_lok lay) (hk : mt[k]? = some y) (hy : plainName y.1.cls = true) (hon : zx_on y.2.1 = y.1.cls) (hK : ∀ g ∈ K, zx_okK y.2.1 y.2.2.2.2 y.2.2.1 g.2 = true) (hlen : (zx_sl av).length ≤ y.2.2.2.1)
    (h : ∀ Zp : zx_X → Prop, zx_R mt lay ro l E K d Q Zp → Zp (0, zx_ent y.2.2.2.1 av, [], S)) : zx_Met mt lay ro l E k d av S Q := by
  refine ⟨y, hk, Met.ofW (cc := y.2.2.1) (maxL := y.2.2.2.1) (ret := y.2.2.2.2) hy rfl ?_⟩
  intro p e s m args below meth c s₁ B hml hv
  obtain ⟨rfl, hP, henv⟩ := hv
  have hts : ∀ w ∈ zx_ws y, w.before _ s = true := atoms_spec (ws := zx_ws y) B.pre
  have hown : s.vm.findClass (zx_on y.2.1) = some m.cls := by rw [hon]; exact findClass_of_methodNamed B.named
  have F : zx_F lay ro E y.2.1 y.2.2.1 y.2.2.2.1 d y.2.2.2.2 p (headSpec (zx_ws y) (zx_rm d)).room s m _ meth c := ⟨B.exec, B.bytes, hml, hown, fun w hw => hts w (List.mem_cons_of_mem _ hw), henv, hlok, B.returns, B.notSynchronized, rfl⟩
  rw [lg_entry_eq]
  have hr : zx_R mt lay ro l E K d Q (zx_Z lay E p l e (headSpec (zx_ws y) (zx_rm d)).room s m ((av.map (zx_v E.2.1)).toArray) below meth c y.2.2.2.1 (MQ below (zx_Q lay E Q) ((av.map (zx_v E.2.1)).toArray) s 0 0 (zx_A lay E))) := by
    refine ⟨fun k P X P' X' h1 h2 h3 => (zx_krun F hK k P X P' X' h1 h2).2 h3, fun X q X1 X2 h1 h2 h3 => ?_, fun X k av X1 Q' dd h1 h2 h3 h4 => ?_, fun X q r h1 h2 h3 => ?_⟩
    · unfold zx_br at h1
      split at h1
      · rename_i n I hat
        exact zx_kbr F (zx_ok_at hK hat) h1 h2 h3
      · cases h1
    · unfold zx_ca at h1
      split at h1
      · rename_i n I hat
        exact zx_kcal F hvt hst (zx_ok_at hK hat) h1 h2 h3 h4
      · cases h1
    · unfold zx_rt at h1
      split at h1
      · rename_i n I hat
        exact zx_kret F (zx_ok_at hK hat) h1 h2 h3
      · cases h1
  exact h _ hr s.heap [] _ hP va_S.rf (zx_ent_lv hlen)
