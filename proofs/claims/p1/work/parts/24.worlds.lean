/-! The two worlds at their start, cell by cell -/
def zx_mi {α β : Type} (f : Nat → α → β) : Nat → List α → List β
  | _, [] => []
  | k, a :: l => f k a :: zx_mi f (k + 1) l
theorem zx_mi_get {α β : Type} (f : Nat → α → β) : ∀ (l : List α) (k i : Nat), (zx_mi f k l)[i]? = (l[i]?).map (f (k + i))
  | [], _, _ => rfl
  | a :: l, k, 0 => rfl
  | a :: l, k, i + 1 => by
    have := zx_mi_get f l (k + 1) i
    rw [show k + 1 + i = k + (i + 1) by omega] at this
    exact this
theorem zx_mi_eq {α β : Type} (f : Nat → α → β) (l : List α) : l.mapIdx f = zx_mi f 0 l := by
  apply List.ext_getElem?
  intro i
  rw [List.getElem?_mapIdx, zx_mi_get, Nat.zero_add]
def zx_ce2 (E : zx_E) (S : zx_S) (p : Nat) (c : zx_C) : va_E := match c with
  | .inl (ci, ks) => .inr (ci, zx_mi (fun k kind => zx_fv E S p k kind) 0 ks)
  | .inr (n, false) => .inl (E.2.2.1, n, .inl (S.2.1 p))
  | .inr (n, true) => .inl (E.2.2.2, n, .inr (.inl (S.2.2 p)))
theorem zx_ce2_eq (E : zx_E) (S : zx_S) (p : Nat) (c : zx_C) : zx_ce E S p c = zx_ce2 E S p c := by
  rcases c with ⟨ci, ks⟩ | ⟨n, b⟩
  · simp only [zx_ce, zx_ce2, zx_mi_eq]
  · cases b <;> rfl
theorem zx_w2 (lay : List zx_C) (E : zx_E) (S : zx_S) : zx_w lay E S = zx_mi (fun p c => (E.2.1 p, zx_ce2 E S p c)) 0 lay := by
  rw [← zx_mi_eq]
  unfold zx_w
  congr 1
  funext p c
  rw [zx_ce2_eq]
/-- the numbers at the start -/
def zd_C : zx_D := zp_l (zp_l (zp_i (fun _ _ => 0, fun _ _ => 0) 12 5 (-1)) 5 10 (-1)) 5 11 (-1)
def zd_rC : List Nat := [13, 6, 5, 18]
def zd_R : zx_D := zp_l (zp_l (zp_i (fun _ _ => 0, fun _ _ => 0) 0 30 (-1)) 0 39 (-1)) 0 40 (-1)
def zE_C (D : va_G) (a0 a1 a2 a3 a4 a5 a6 a7 a8 a9 a10 a11 a12 a13 a14 a15 a16 a17 a18 a19 a20 a21 a22 tM : Nat) (cI cL : ClassId) : zx_E := (D, (fun k => ([a0, a1, a2, a3, a4, a5, a6, a7, a8, a9, a10, a11, a12, a13, a14, a15, a16, a17, a18, a19, a20, a21, a22, tM] : List Nat).getD k 0), cI, cL)
set_option maxRecDepth 100000 in
theorem zw_C (D : va_G) (a0 a1 a2 a3 a4 a5 a6 a7 a8 a9 a10 a11 a12 a13 a14 a15 a16 a17 a18 a19 a20 a21 a22 tM : Nat) (cI cL : ClassId) : zx_w zx_LC (zE_C D a0 a1 a2 a3 a4 a5 a6 a7 a8 a9 a10 a11 a12 a13 a14 a15 a16 a17 a18 a19 a20 a21 a22 tM cI cL) (zd_rC, zd_C) = [(a0, .inr (0, [.ref a1, .ref a3, .ref a5, .ref a9, .ref a17])), (a1, .inr (1, [.ref a2, .int 0, .int 0])), (a2, .inl (cI, 400, .inl (fun _ => 0))), (a3, .inr (1, [.ref a4, .int 0, .int 0])), (a4, .inl (cI, 640, .inl (fun _ => 0))), (a5, .inr (3, [.ref a6, .long 0, .int 0, .ref a6, .int 0, .int 0, .long 0, .int 0, .int 0, .int 0, .long (-1), .long (-1)])), (a6, .inl (cI, 8196, .inl (fun _ => 0))), (a7, .inr (5, [.ref a6, .ref a8, .int 0, .int 0, .int 0, .int 0, .ref a5, .int 0, .int 0, .int 0, .long 0])), (a8, .inl (cL, 4, .inr (.inl (fun _ => 0)))), (a9, .inr (6, [.ref a10, .ref a12, .ref a14, .ref a7, .ref a5, .ref a15, .ref a16, .int 0, .int 0, .int 0, .long 0, .long 0, .int 0, .int 0, .int 0, .int 0, .int 0, .int 0, .int 0])), (a10, .inr (1, [.ref a11, .int 0, .int 0])), (a11, .inl (cI, 400, .inl (fun _ => 0))), (a12, .inr (2, [.ref a13, .int 0, .int 0, .int 0, .int 0, .int (-1)])), (a13, .inl (cI, 0, .inl (fun _ => 0))), (a14, .inl (cI, 11, .inl (fun _ => 0))), (a15, .inl (cL, 40, .inr (.inl (fun _ => 0)))), (a16, .inl (cL, 40, .inr (.inl (fun _ => 0)))), (a17, .inr (7, [.ref a18, .ref a7, .ref a20, .ref a22, .ref a18, .int 0, .int 0, .int 0, .long 0, .int 0, .int 0, .int 0, .int 0, .int 0, .int 0, .int 0, .int 0])), (a18, .inr (1, [.ref a19, .int 0, .int 0])), (a19, .inl (cI, 640, .inl (fun _ => 0))), (a20, .inr (4, [.ref a6, .long 0, .int 0, .ref a21, .int 0, .int 0])), (a21, .inl (cI, 400, .inl (fun _ => 0))), (a22, .inl (cI, 6, .inl (fun _ => 0)))] := by
  rw [zx_w2]
  rfl
def zE_R (D : va_G) (a0 a1 a2 a3 a4 a5 a6 a7 a8 a9 tM : Nat) (cI cL : ClassId) : zx_E := (D, (fun k => ([a0, a1, a2, a3, a4, a5, a6, a7, a8, a9, tM] : List Nat).getD k 0), cI, cL)
set_option maxRecDepth 100000 in
theorem zw_R (D : va_G) (a0 a1 a2 a3 a4 a5 a6 a7 a8 a9 tM : Nat) (cI cL : ClassId) : zx_w zx_LR (zE_R D a0 a1 a2 a3 a4 a5 a6 a7 a8 a9 tM cI cL) ([], zd_R) = [(a0, .inr (8, [.ref a1, .int 0, .ref a2, .int 0, .ref a3, .int 0, .ref a4, .int 0, .ref a5, .int 0, .int 0, .int 0, .int 0, .long 0, .long 0, .long 0, .long 0, .long 0, .long 0, .int 0, .int 0, .int 0, .int 0, .int 0, .ref a6, .int 0, .int 0, .int 0, .int 0, .int 0, .int (-1), .int 0, .int 0, .ref a7, .ref a8, .int 0, .int 0, .int 0, .int 0, .long (-1), .long (-1), .ref a9])), (a1, .inl (cI, 400, .inl (fun _ => 0))), (a2, .inl (cI, 640, .inl (fun _ => 0))), (a3, .inl (cI, 400, .inl (fun _ => 0))), (a4, .inl (cI, 640, .inl (fun _ => 0))), (a5, .inl (cI, 8328, .inl (fun _ => 0))), (a6, .inl (cI, 400, .inl (fun _ => 0))), (a7, .inl (cI, 48, .inl (fun _ => 0))), (a8, .inl (cI, 48, .inl (fun _ => 0))), (a9, .inl (cI, 11, .inl (fun _ => 0)))] := by
  rw [zx_w2]
  rfl
