/-! The two worlds' layouts are sound; contracts of either world -/
def zx_lokB (lay : List zx_C) (loc : Nat → Nat × Nat) : Bool := lay.zipIdx.all (fun q => match q.1 with
  | .inl (ci, ks) => decide (ks.map zx_kt = zx_kd ci) && ks.zipIdx.all (fun z => decide (z.1 < 50) || decide (100 ≤ z.1) || decide ((q.2, z.2) = loc z.1))
  | .inr _ => true)
theorem zx_lok_of {lay : List zx_C} {loc : Nat → Nat × Nat} (h : zx_lokB lay loc = true) : zx_lok lay := by
  have h0 := List.all_eq_true.mp h
  have key : ∀ (p ci : Nat) (ks : List Nat), lay[p]? = some (.inl (ci, ks)) → ks.map zx_kt = zx_kd ci ∧ ∀ i kd, ks[i]? = some kd → 50 ≤ kd → kd < 100 → (p, i) = loc kd := by
    intro p ci ks hp
    have h1 := h0 (.inl (ci, ks), p) (List.mem_zipIdx_iff_getElem?.mpr hp)
    simp only [Bool.and_eq_true, decide_eq_true_eq, List.all_eq_true] at h1
    refine ⟨h1.1, fun i kd hi h5 h6 => ?_⟩
    have h2 := h1.2 (kd, i) (List.mem_zipIdx_iff_getElem?.mpr hi)
    simp only [Bool.or_eq_true, decide_eq_true_eq] at h2
    rcases h2 with (h2 | h2) | h2
    · omega
    · omega
    · exact h2
  refine ⟨fun q ci ks hq => (key q ci ks hq).1, fun p q ci cj ks kt i j kd hp hq hi hj h5 h6 => ?_⟩
  have e1 := (key p ci ks hp).2 i kd hi h5 h6
  have e2 := (key q cj kt hq).2 j kd hj h5 h6
  have e := e1.trans e2.symm
  exact ⟨(Prod.mk.inj e).1, (Prod.mk.inj e).2⟩
def zx_locC (kd : Nat) : Nat × Nat := match kd with
  | 50 => (12, 0)
  | 51 => (5, 3)
  | 52 => (7, 6)
  | _ => (17, 4)
theorem zx_lokC : zx_lok zx_LC := zx_lok_of (loc := zx_locC) (by decide +kernel)
theorem zx_lokR : zx_lok zx_LR := zx_lok_of (loc := zx_locC) (by decide +kernel)
abbrev zx_MC (l : Launch) (E : zx_E) : Nat → Nat → List Value → zx_S → (Option Value → zx_S → Prop) → Prop := zx_Met zx_mt zx_LC zx_ro l E
abbrev zx_MR (l : Launch) (E : zx_E) : Nat → Nat → List Value → zx_S → (Option Value → zx_S → Prop) → Prop := zx_Met zx_mt zx_LR zx_ro l E
abbrev zx_RC (l : Launch) (E : zx_E) : zx_K → Nat → (Option Value → zx_S → Prop) → (zx_X → Prop) → Prop := zx_R zx_mt zx_LC zx_ro l E
abbrev zx_RR (l : Launch) (E : zx_E) : zx_K → Nat → (Option Value → zx_S → Prop) → (zx_X → Prop) → Prop := zx_R zx_mt zx_LR zx_ro l E
theorem zx_ofC {l : Launch} {E : zx_E} {k d : Nat} {av : List Value} {S : zx_S} {Q : Option Value → zx_S → Prop} {y : zx_Y} {K : zx_K} (hk : zx_mt[k]? = some y) (hy : plainName y.1.cls = true) (hon : zx_on y.2.1 = y.1.cls) (hK : ∀ g ∈ K, zx_okK y.2.1 y.2.2.2.2 y.2.2.1 g.2 = true) (hlen : (zx_sl av).length ≤ y.2.2.2.1)
    (h : ∀ Zp : zx_X → Prop, zx_RC l E K d Q Zp → Zp (0, zx_ent y.2.2.2.1 av, [], S)) : zx_MC l E k d av S Q := zx_Met.of zx_vtab_ok zx_stab2_ok zx_lokC hk hy hon hK hlen h
theorem zx_ofR {l : Launch} {E : zx_E} {k d : Nat} {av : List Value} {S : zx_S} {Q : Option Value → zx_S → Prop} {y : zx_Y} {K : zx_K} (hk : zx_mt[k]? = some y) (hy : plainName y.1.cls = true) (hon : zx_on y.2.1 = y.1.cls) (hK : ∀ g ∈ K, zx_okK y.2.1 y.2.2.2.2 y.2.2.1 g.2 = true) (hlen : (zx_sl av).length ≤ y.2.2.2.1)
    (h : ∀ Zp : zx_X → Prop, zx_RR l E K d Q Zp → Zp (0, zx_ent y.2.2.2.1 av, [], S)) : zx_MR l E k d av S Q := zx_Met.of zx_vtab_ok zx_stab2_ok zx_lokR hk hy hon hK hlen h
/-- a contract says more than another -/
theorem zx_Met.mono {mt : List zx_Y} {lay : List zx_C} {ro : Nat × (Nat → Int32)} {l : Launch} {E : zx_E} {k d : Nat} {av : List Value} {S : zx_S} {Q Q' : Option Value → zx_S → Prop} (h : zx_Met mt lay ro l E k d av S Q) (hq : ∀ v S', Q v S' → Q' v S') : zx_Met mt lay ro l E k d av S Q' := by
  obtain ⟨y, hy, hM⟩ := h
  refine ⟨y, hy, ?_⟩
  intro p e ha hc hk s m args below hf happ hP hK
  obtain ⟨k, o, h1, h2, h3, ⟨⟨r, S', e1, e2, e3⟩, h5⟩, h6⟩ := hM p e ha hc hk s m args below hf happ hP hK
  exact ⟨k, o, h1, h2, h3, ⟨⟨r, S', e1, hq _ _ e2, e3⟩, h5⟩, h6⟩
