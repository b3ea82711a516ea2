/-! The pure machine's states as worlds of the kit -/
abbrev zx_E : Type := va_G × (Nat → Nat) × ClassId × ClassId
def zx_v (r : Nat → Nat) (v : Value) : Value := match v with
  | .ref p => .ref (r p)
  | w => w
def zx_fv (E : zx_E) (S : zx_S) (p k kind : Nat) : Value := if 100 ≤ kind then .ref (E.2.1 (kind - 100)) else if 50 ≤ kind then .ref (E.2.1 (S.1.getD (kind - 50) 0)) else if kind = 1 then .long (zg_l S.2 p k) else .int (zg_i S.2 p k)
def zx_ce (E : zx_E) (S : zx_S) (p : Nat) (c : zx_C) : va_E := match c with
  | .inl (ci, ks) => .inr (ci, ks.mapIdx (fun k kind => zx_fv E S p k kind))
  | .inr (n, false) => .inl (E.2.2.1, n, .inl (S.2.1 p))
  | .inr (n, true) => .inl (E.2.2.2, n, .inr (.inl (S.2.2 p)))
def zx_w (lay : List zx_C) (E : zx_E) (S : zx_S) : va_W := lay.mapIdx (fun p c => (E.2.1 p, zx_ce E S p c))
theorem zx_w_at {lay : List zx_C} {E : zx_E} {S : zx_S} {p : Nat} {c : zx_C} (h : lay[p]? = some c) : (zx_w lay E S)[p]? = some (E.2.1 p, zx_ce E S p c) := by
  simp [zx_w, List.getElem?_mapIdx, h]
theorem zx_w_no {lay : List zx_C} {E : zx_E} {S : zx_S} {p : Nat} (h : lay[p]? = none) : (zx_w lay E S)[p]? = none := by
  simp only [zx_w, List.getElem?_mapIdx, h, Option.map_none]
theorem zx_w_set {lay : List zx_C} {E : zx_E} {S S' : zx_S} {p : Nat} {c : zx_C} (h : lay[p]? = some c) (ho : ∀ (q : Nat) (c' : zx_C), q ≠ p → lay[q]? = some c' → zx_ce E S' q c' = zx_ce E S q c') : (zx_w lay E S).set p (E.2.1 p, zx_ce E S' p c) = zx_w lay E S' := by
  apply List.ext_getElem?
  intro q
  by_cases hq : q = p
  · subst hq
    have hl : q < (zx_w lay E S).length := (List.getElem?_eq_some_iff.mp (zx_w_at (E := E) (S := S) h)).1
    rw [List.getElem?_set_self hl, zx_w_at h]
  · rw [List.getElem?_set_ne (Ne.symm hq)]
    cases hc : lay[q]? with
    | none => rw [zx_w_no hc, zx_w_no hc]
    | some c' => rw [zx_w_at hc, zx_w_at hc, ho q c' hq hc]
theorem zx_up_ne {α : Type} {f : Nat → α} {p q : Nat} {v : α} (h : q ≠ p) : va_up f p v q = f q := by simp [va_up, h]
theorem zx_up_eq {α : Type} {f : Nat → α} {p : Nat} {v : α} : va_up f p v p = v := by simp [va_up]
theorem zx_ce_i {E : zx_E} {r : List Nat} {D : zx_D} {p k : Nat} {x : Int32} (q : Nat) (c : zx_C) (h : q ≠ p) : zx_ce E (r, zp_i D p k x) q c = zx_ce E (r, D) q c := by
  rcases c with ⟨ci, ks⟩ | ⟨n, b⟩
  · simp [zx_ce, zx_fv, zg_i, zg_l, zp_i, zx_up_ne h]
  · cases b <;> simp [zx_ce, zp_i, zx_up_ne h]
theorem zx_ce_l {E : zx_E} {r : List Nat} {D : zx_D} {p k : Nat} {x : Int64} (q : Nat) (c : zx_C) (h : q ≠ p) : zx_ce E (r, zp_l D p k x) q c = zx_ce E (r, D) q c := by
  rcases c with ⟨ci, ks⟩ | ⟨n, b⟩
  · simp [zx_ce, zx_fv, zg_i, zg_l, zp_l, zx_up_ne h]
  · cases b <;> simp [zx_ce, zp_l, zx_up_ne h]
theorem zx_ce_a {E : zx_E} {r : List Nat} {D : zx_D} {p : Nat} {f : Nat → Int32} (q : Nat) (c : zx_C) (h : q ≠ p) : zx_ce E (r, zp_a D p f) q c = zx_ce E (r, D) q c := by
  rcases c with ⟨ci, ks⟩ | ⟨n, b⟩
  · simp [zx_ce, zx_fv, zg_i, zg_l, zp_a, zx_up_ne h]
  · cases b <;> simp [zx_ce, zp_a, zx_up_ne h]
/-- a field that was put: the list of values -/
theorem zx_fs_set {ks : List Nat} {f g : Nat → Nat → Value} {k : Nat} {v : Value} (hk : k < ks.length) (hv : ∀ kind, ks[k]? = some kind → g k kind = v) (ho : ∀ j kind, j ≠ k → ks[j]? = some kind → g j kind = f j kind) : (ks.mapIdx f).set k v = ks.mapIdx g := by
  apply List.ext_getElem?
  intro j
  by_cases hj : j = k
  · subst hj
    rw [List.getElem?_set_self (by simpa using hk), List.getElem?_mapIdx]
    cases hc : ks[j]? with
    | none => simp [List.getElem?_eq_none_iff] at hc; omega
    | some kind => simp [hv kind hc]
  · rw [List.getElem?_set_ne (Ne.symm hj), List.getElem?_mapIdx, List.getElem?_mapIdx]
    cases hc : ks[j]? with
    | none => rfl
    | some kind => simp [ho j kind hj hc]
theorem zx_put_i {lay : List zx_C} {E : zx_E} {r : List Nat} {D : zx_D} {p k ci : Nat} {x : Int32} {ks : List Nat} {kd : Nat} (h : lay[p]? = some (.inl (ci, ks))) (hk : ks[k]? = some kd) (hd : kd = 0 ∨ kd = 3) : (zx_w lay E (r, D)).set p (E.2.1 p, .inr (ci, (ks.mapIdx (fun k kind => zx_fv E (r, D) p k kind)).set k (.int x))) = zx_w lay E (r, zp_i D p k x) := by
  have hl : k < ks.length := (List.getElem?_eq_some_iff.mp hk).1
  rw [zx_fs_set (g := fun j kind => zx_fv E (r, zp_i D p k x) p j kind) hl ?_ ?_]
  · exact zx_w_set h (fun q c' hq _ => zx_ce_i q c' hq)
  · intro kind hkd
    have : kind = kd := by rw [hk] at hkd; exact (Option.some.inj hkd).symm
    subst this
    rcases hd with rfl | rfl <;> simp [zx_fv, zg_i, zp_i, zx_up_eq]
  · intro j kind hj _
    simp [zx_fv, zg_i, zg_l, zp_i, zx_up_eq, zx_up_ne hj]
theorem zx_put_l {lay : List zx_C} {E : zx_E} {r : List Nat} {D : zx_D} {p k ci : Nat} {x : Int64} {ks : List Nat} (h : lay[p]? = some (.inl (ci, ks))) (hk : ks[k]? = some 1) : (zx_w lay E (r, D)).set p (E.2.1 p, .inr (ci, (ks.mapIdx (fun k kind => zx_fv E (r, D) p k kind)).set k (.long x))) = zx_w lay E (r, zp_l D p k x) := by
  have hl : k < ks.length := (List.getElem?_eq_some_iff.mp hk).1
  rw [zx_fs_set (g := fun j kind => zx_fv E (r, zp_l D p k x) p j kind) hl ?_ ?_]
  · exact zx_w_set h (fun q c' hq _ => zx_ce_l q c' hq)
  · intro kind hkd
    have : kind = 1 := by rw [hk] at hkd; exact (Option.some.inj hkd).symm
    subst this
    simp [zx_fv, zg_l, zp_l, zx_up_eq]
  · intro j kind hj _
    simp [zx_fv, zg_i, zg_l, zp_l, zx_up_eq, zx_up_ne hj]
/-- no two slots share a reference that changes -/
def zx_luq (lay : List zx_C) : Prop := ∀ (p q ci cj : Nat) (ks kt : List Nat) (i j kd : Nat), lay[p]? = some (.inl (ci, ks)) → lay[q]? = some (.inl (cj, kt)) → ks[i]? = some kd → kt[j]? = some kd → 50 ≤ kd → kd < 100 → p = q ∧ i = j
theorem zx_put_r {lay : List zx_C} {E : zx_E} {r : List Nat} {D : zx_D} {p k ci : Nat} {x : Nat} {ks : List Nat} {kd : Nat} (hu : zx_luq lay) (h : lay[p]? = some (.inl (ci, ks))) (hk : ks[k]? = some kd) (h5 : 50 ≤ kd ∧ kd < 100 ∧ kd - 50 < r.length) : (zx_w lay E (r, D)).set p (E.2.1 p, .inr (ci, (ks.mapIdx (fun k kind => zx_fv E (r, D) p k kind)).set k (.ref (E.2.1 x)))) = zx_w lay E (r.set (kd - 50) x, D) := by
  have hl : k < ks.length := (List.getElem?_eq_some_iff.mp hk).1
  have other : ∀ (q cj j : Nat) (kt : List Nat) (kind : Nat), lay[q]? = some (.inl (cj, kt)) → kt[j]? = some kind → ¬ (q = p ∧ j = k) → zx_fv E (r.set (kd - 50) x, D) q j kind = zx_fv E (r, D) q j kind := by
    intro q cj j kt kind hq hj hne
    by_cases h1 : 100 ≤ kind
    · simp [zx_fv, h1]
    · by_cases h2 : 50 ≤ kind
      · have hn : kind ≠ kd := fun e => by
          subst e
          obtain ⟨e1, e2⟩ := hu p q ci cj ks kt k j kind h hq hk hj h2 h5.2.1
          exact hne ⟨e1.symm, e2.symm⟩
        have hn2 : kd - 50 ≠ kind - 50 := by omega
        simp [zx_fv, h1, h2, List.getD_eq_getElem?_getD, List.getElem?_set_ne hn2]
      · simp [zx_fv, h1, h2]
  rw [zx_fs_set (g := fun j kind => zx_fv E (r.set (kd - 50) x, D) p j kind) hl ?_ ?_]
  · refine zx_w_set h (fun q c' hq hc' => ?_)
    rcases c' with ⟨cj, kt⟩ | ⟨n, b⟩
    · simp only [zx_ce]
      congr 2
      apply List.ext_getElem?
      intro j
      rw [List.getElem?_mapIdx, List.getElem?_mapIdx]
      cases hj : kt[j]? with
      | none => rfl
      | some kind => simp [other q cj j kt kind hc' hj (fun e => hq e.1)]
    · cases b <;> rfl
  · intro kind hkd
    have : kind = kd := by rw [hk] at hkd; exact (Option.some.inj hkd).symm
    subst this
    have h1 : ¬ 100 ≤ kind := by omega
    simp [zx_fv, h1, h5.1, List.getD_eq_getElem?_getD, h5.2.2]
  · intro j kind hj hkj
    exact other p ci j ks kind h hkj (fun e => hj e.2)
theorem zx_put_ai {lay : List zx_C} {E : zx_E} {r : List Nat} {D : zx_D} {p j n : Nat} {x : Int32} (h : lay[p]? = some (.inr (n, false))) : (zx_w lay E (r, D)).set p (E.2.1 p, .inl (E.2.2.1, n, .inl (upd (D.1 p) j x))) = zx_w lay E (r, zp_i D p j x) := by
  have e : (Sum.inl (E.2.2.1, n, .inl (upd (D.1 p) j x)) : va_E) = zx_ce E (r, zp_i D p j x) p (.inr (n, false)) := by
    simp only [zx_ce, zp_i, zx_up_eq]
    rfl
  rw [e]
  exact zx_w_set h (fun q c' hq _ => zx_ce_i q c' hq)
theorem zx_put_al {lay : List zx_C} {E : zx_E} {r : List Nat} {D : zx_D} {p j n : Nat} {x : Int64} (h : lay[p]? = some (.inr (n, true))) : (zx_w lay E (r, D)).set p (E.2.1 p, .inl (E.2.2.2, n, .inr (.inl (vp_updL (D.2 p) j x)))) = zx_w lay E (r, zp_l D p j x) := by
  have e : (Sum.inl (E.2.2.2, n, .inr (.inl (vp_updL (D.2 p) j x))) : va_E) = zx_ce E (r, zp_l D p j x) p (.inr (n, true)) := by
    simp only [zx_ce, zp_l, zx_up_eq]
    rfl
  rw [e]
  exact zx_w_set h (fun q c' hq _ => zx_ce_l q c' hq)
theorem zx_put_aa {lay : List zx_C} {E : zx_E} {r : List Nat} {D : zx_D} {p n : Nat} {f : Nat → Int32} (h : lay[p]? = some (.inr (n, false))) : (zx_w lay E (r, D)).set p (E.2.1 p, .inl (E.2.2.1, n, .inl f)) = zx_w lay E (r, zp_a D p f) := by
  have e : (Sum.inl (E.2.2.1, n, .inl f) : va_E) = zx_ce E (r, zp_a D p f) p (.inr (n, false)) := by
    simp only [zx_ce, zp_a, zx_up_eq]
  rw [e]
  exact zx_w_set h (fun q c' hq _ => zx_ce_a q c' hq)
/-- the cells of the world, by their addresses -/
def zx_A (lay : List zx_C) (E : zx_E) : Nat → Prop := fun q => ∃ p, p < lay.length ∧ q = E.2.1 p
def zx_inj (lay : List zx_C) (E : zx_E) : Prop := ∀ i j, i < lay.length → j < lay.length → E.2.1 i = E.2.1 j → i = j
theorem zx_Dn {lay : List zx_C} {E : zx_E} {S : zx_S} (h : zx_inj lay E) : va_D (zx_A lay E) (zx_w lay E S) := by
  have key : ∀ (k : Nat) (q : Nat × va_E), (zx_w lay E S)[k]? = some q → k < lay.length ∧ q.1 = E.2.1 k := by
    intro k q hk
    cases hc : lay[k]? with
    | none => rw [zx_w_no hc] at hk; cases hk
    | some c =>
      rw [zx_w_at hc] at hk
      cases hk
      exact ⟨(List.getElem?_eq_some_iff.mp hc).1, rfl⟩
  refine ⟨fun i j x y hi hj hxy => ?_, fun k q hk => ?_⟩
  · obtain ⟨h1, h2⟩ := key i x hi
    obtain ⟨h3, h4⟩ := key j y hj
    exact h i j h1 h3 (by rw [← h2, ← h4]; exact hxy)
  · obtain ⟨h1, h2⟩ := key k q hk
    exact ⟨k, h1, h2⟩
/-- the locals -/
def zx_lv (r : Nat → Nat) (ls : Array Slot) (nL : Nat) (L : List (Option Value)) : Prop := ls.size = nL ∧ L.length = nL ∧ lv_wf ls ∧ ∀ (i : Nat) (v : Value), L[i]? = some (some v) → ls[i]? = some (.val (zx_v r v))
def zx_ls (r : Nat → Nat) (L : List (Option Value)) : List (Nat × Value) := (List.range L.length).filterMap (fun i => match L[i]? with
  | some (some v) => some (i, zx_v r v)
  | _ => none)
theorem zx_ls_mem {r : Nat → Nat} {L : List (Option Value)} {i : Nat} {v : Value} (h : L[i]? = some (some v)) : (i, zx_v r v) ∈ zx_ls r L := by
  unfold zx_ls
  rw [List.mem_filterMap]
  refine ⟨i, ?_, by rw [h]⟩
  rw [List.mem_range]
  exact (List.getElem?_eq_some_iff.mp h).1
theorem zx_lv.has {r : Nat → Nat} {ls : Array Slot} {nL : Nat} {L : List (Option Value)} (h : zx_lv r ls nL L) : lv_has ls nL (zx_ls r L) := by
  refine ⟨h.1, h.2.2.1, fun q hq => ?_⟩
  unfold zx_ls at hq
  rw [List.mem_filterMap] at hq
  obtain ⟨i, -, hi⟩ := hq
  split at hi
  · rename_i v hv
    cases hi
    exact h.2.2.2 i v hv
  · cases hi
theorem zx_cat (r : Nat → Nat) (v : Value) : (zx_v r v).category = v.category := by cases v <;> rfl
theorem zx_kill_len (L : List (Option Value)) (a : Nat) : (zx_kill L a).length = L.length := by
  cases a with
  | zero => rfl
  | succ a => simp only [zx_kill]; split <;> simp
/-- what is left beside the slot that is stored to: no wide value just before it -/
theorem zx_kill_get {L : List (Option Value)} {a i : Nat} {v : Value} (h : (zx_kill L a)[i]? = some (some v)) : L[i]? = some (some v) ∧ ¬ (i + 1 = a ∧ v.category = 2) := by
  cases a with
  | zero => exact ⟨h, fun q => by omega⟩
  | succ a =>
    simp only [zx_kill] at h
    by_cases hi : i = a
    · subst hi
      cases hc : L[i]? with
      | none => rw [hc] at h; simp at h; rw [hc] at h; cases h
      | some o =>
        rw [hc] at h
        have hl : i < L.length := (List.getElem?_eq_some_iff.mp hc).1
        cases o with
        | none => simp at h; rw [hc] at h; cases h
        | some w =>
          cases w <;> simp only [] at h <;> (try (rw [List.getElem?_set_self hl] at h; cases h)) <;> (rw [hc] at h; cases h; exact ⟨rfl, fun q => by simp [Value.category] at q⟩)
    · have hL : L[i]? = some (some v) := by
        split at h
        · rwa [List.getElem?_set_ne (Ne.symm hi)] at h
        · rwa [List.getElem?_set_ne (Ne.symm hi)] at h
        · exact h
      exact ⟨hL, fun q => hi (by omega)⟩
theorem zx_lv.st1 {r : Nat → Nat} {ls ls' : Array Slot} {nL : Nat} {L : List (Option Value)} {a : Nat} {w : Value} (h : zx_lv r ls nL L) (ha : a < L.length) (h2 : lv_has ls' nL ((a, zx_v r w) :: (zx_ls r L).filter (fun q => !(q.1 == a) && !(q.1 + 1 == a && q.2.category == 2)))) : zx_lv r ls' nL ((zx_kill L a).set a (some w)) := by
  refine ⟨h2.1, by rw [List.length_set, zx_kill_len]; exact h.2.1, h2.2.1, fun i v hv => ?_⟩
  by_cases hi : i = a
  · subst hi
    rw [List.getElem?_set_self (by rw [zx_kill_len]; exact ha)] at hv
    cases hv
    exact h2.2.2 (i, zx_v r w) List.mem_cons_self
  · rw [List.getElem?_set_ne (Ne.symm hi)] at hv
    obtain ⟨h3, h4⟩ := zx_kill_get hv
    refine h2.2.2 (i, zx_v r v) (List.mem_cons_of_mem _ (List.mem_filter.mpr ⟨zx_ls_mem h3, ?_⟩))
    have h5 : ¬ (i + 1 = a ∧ (zx_v r v).category = 2) := by rw [zx_cat]; exact h4
    simp only [Bool.and_eq_true, Bool.not_eq_true', beq_eq_false_iff_ne, ne_eq, Bool.and_eq_false_iff]
    refine ⟨hi, ?_⟩
    by_cases h6 : i + 1 = a
    · exact Or.inr (fun h7 => h5 ⟨h6, h7⟩)
    · exact Or.inl h6
theorem zx_lv.st2 {r : Nat → Nat} {ls ls' : Array Slot} {nL : Nat} {L : List (Option Value)} {a : Nat} {w : Value} (h : zx_lv r ls nL L) (ha : a + 1 < L.length) (h2 : lv_has ls' nL ((a, zx_v r w) :: (zx_ls r L).filter (fun q => !(q.1 == a) && (!(q.1 == a + 1) && !(q.1 + 1 == a && q.2.category == 2))))) : zx_lv r ls' nL (((zx_kill L a).set a (some w)).set (a + 1) none) := by
  refine ⟨h2.1, by rw [List.length_set, List.length_set, zx_kill_len]; exact h.2.1, h2.2.1, fun i v hv => ?_⟩
  by_cases hi1 : i = a + 1
  · subst hi1
    rw [List.getElem?_set_self (by rw [List.length_set, zx_kill_len]; exact ha)] at hv
    cases hv
  rw [List.getElem?_set_ne (Ne.symm hi1)] at hv
  by_cases hi : i = a
  · subst hi
    rw [List.getElem?_set_self (by rw [zx_kill_len]; omega)] at hv
    cases hv
    exact h2.2.2 (i, zx_v r w) List.mem_cons_self
  · rw [List.getElem?_set_ne (Ne.symm hi)] at hv
    obtain ⟨h3, h4⟩ := zx_kill_get hv
    refine h2.2.2 (i, zx_v r v) (List.mem_cons_of_mem _ (List.mem_filter.mpr ⟨zx_ls_mem h3, ?_⟩))
    have h5 : ¬ (i + 1 = a ∧ (zx_v r v).category = 2) := by rw [zx_cat]; exact h4
    simp only [Bool.and_eq_true, Bool.not_eq_true', beq_eq_false_iff_ne, ne_eq, Bool.and_eq_false_iff]
    refine ⟨hi, hi1, ?_⟩
    by_cases h6 : i + 1 = a
    · exact Or.inr (fun h7 => h5 ⟨h6, h7⟩)
    · exact Or.inl h6
