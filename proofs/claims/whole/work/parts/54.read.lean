abbrev zV (n m g b : Nat) (D R : zx_D) : Prop := Nonempty ((n ≤ 400) ∧ (m ≤ 640) ∧ (zg_i D 1 1 = nI n) ∧ (zg_i R 0 1 = nI n) ∧ (∀ i, i < n → zg_i D 2 i = zg_i R 1 i ∧ y_B (zg_i R 1 i)) ∧ (zg_i D 3 1 = nI m) ∧ (zg_i R 0 3 = nI m) ∧ (∀ i, i < m → zg_i D 4 i = zg_i R 2 i ∧ y_B (zg_i R 2 i)) ∧ (zg_i D 12 1 = nI m) ∧ (zg_i D 12 4 = zg_i R 0 29) ∧ (zg_i D 12 5 = zg_i R 0 30) ∧ (zg_i D 5 9 = zg_i R 0 37) ∧ (zg_i R 0 38 = zg_i R 0 37) ∧ (zg_l D 5 10 = zg_l R 0 39) ∧ (zg_l D 5 11 = zg_l R 0 40) ∧ (zg_i D 5 8 = zg_i R 9 0) ∧ (∀ i, 1 ≤ i → i ≤ 10 → zg_i D 14 i = zg_i R 9 i) ∧ (∀ i, 1 ≤ i → i ≤ 4 → zg_i D 22 i = 0) ∧ (g ≤ 400) ∧ (zg_i D 10 1 = nI g) ∧ (zg_i R 0 5 = nI g) ∧ (∀ i, i < g → zg_i D 11 i = zg_i R 3 i ∧ y_B (zg_i R 3 i)) ∧ (zg_i R 0 32 = nI b) ∧ (zg_i D 14 10 = nI b) ∧ (∀ i, i < b → zg_l D 15 i = (zg_i R 7 i).toInt64 ∧ zg_l D 16 i = (zg_i R 8 i).toInt64))
theorem zV.hn {n m g b : Nat} {D R : zx_D} (h : zV n m g b D R) : n ≤ 400 := h.elim fun q => q.1
theorem zV.hm {n m g b : Nat} {D R : zx_D} (h : zV n m g b D R) : m ≤ 640 := h.elim fun q => q.2.1
theorem zV.pC {n m g b : Nat} {D R : zx_D} (h : zV n m g b D R) : zg_i D 1 1 = nI n := h.elim fun q => q.2.2.1
theorem zV.pR {n m g b : Nat} {D R : zx_D} (h : zV n m g b D R) : zg_i R 0 1 = nI n := h.elim fun q => q.2.2.2.1
theorem zV.pB {n m g b : Nat} {D R : zx_D} (h : zV n m g b D R) : ∀ i, i < n → zg_i D 2 i = zg_i R 1 i ∧ y_B (zg_i R 1 i) := h.elim fun q => q.2.2.2.2.1
theorem zV.kC {n m g b : Nat} {D R : zx_D} (h : zV n m g b D R) : zg_i D 3 1 = nI m := h.elim fun q => q.2.2.2.2.2.1
theorem zV.kR {n m g b : Nat} {D R : zx_D} (h : zV n m g b D R) : zg_i R 0 3 = nI m := h.elim fun q => q.2.2.2.2.2.2.1
theorem zV.kB {n m g b : Nat} {D R : zx_D} (h : zV n m g b D R) : ∀ i, i < m → zg_i D 4 i = zg_i R 2 i ∧ y_B (zg_i R 2 i) := h.elim fun q => q.2.2.2.2.2.2.2.1
theorem zV.sz {n m g b : Nat} {D R : zx_D} (h : zV n m g b D R) : zg_i D 12 1 = nI m := h.elim fun q => q.2.2.2.2.2.2.2.2.1
theorem zV.fa {n m g b : Nat} {D R : zx_D} (h : zV n m g b D R) : zg_i D 12 4 = zg_i R 0 29 := h.elim fun q => q.2.2.2.2.2.2.2.2.2.1
theorem zV.wh {n m g b : Nat} {D R : zx_D} (h : zV n m g b D R) : zg_i D 12 5 = zg_i R 0 30 := h.elim fun q => q.2.2.2.2.2.2.2.2.2.2.1
theorem zV.wa {n m g b : Nat} {D R : zx_D} (h : zV n m g b D R) : zg_i D 5 9 = zg_i R 0 37 := h.elim fun q => q.2.2.2.2.2.2.2.2.2.2.2.1
theorem zV.lo {n m g b : Nat} {D R : zx_D} (h : zV n m g b D R) : zg_i R 0 38 = zg_i R 0 37 := h.elim fun q => q.2.2.2.2.2.2.2.2.2.2.2.2.1
theorem zV.kr {n m g b : Nat} {D R : zx_D} (h : zV n m g b D R) : zg_l D 5 10 = zg_l R 0 39 := h.elim fun q => q.2.2.2.2.2.2.2.2.2.2.2.2.2.1
theorem zV.kc {n m g b : Nat} {D R : zx_D} (h : zV n m g b D R) : zg_l D 5 11 = zg_l R 0 40 := h.elim fun q => q.2.2.2.2.2.2.2.2.2.2.2.2.2.2.1
theorem zV.c0 {n m g b : Nat} {D R : zx_D} (h : zV n m g b D R) : zg_i D 5 8 = zg_i R 9 0 := h.elim fun q => q.2.2.2.2.2.2.2.2.2.2.2.2.2.2.2.1
theorem zV.cs {n m g b : Nat} {D R : zx_D} (h : zV n m g b D R) : ∀ i, 1 ≤ i → i ≤ 10 → zg_i D 14 i = zg_i R 9 i := h.elim fun q => q.2.2.2.2.2.2.2.2.2.2.2.2.2.2.2.2.1
theorem zV.en {n m g b : Nat} {D R : zx_D} (h : zV n m g b D R) : ∀ i, 1 ≤ i → i ≤ 4 → zg_i D 22 i = 0 := h.elim fun q => q.2.2.2.2.2.2.2.2.2.2.2.2.2.2.2.2.2.1
theorem zV.hg {n m g b : Nat} {D R : zx_D} (h : zV n m g b D R) : g ≤ 400 := h.elim fun q => q.2.2.2.2.2.2.2.2.2.2.2.2.2.2.2.2.2.2.1
theorem zV.gC {n m g b : Nat} {D R : zx_D} (h : zV n m g b D R) : zg_i D 10 1 = nI g := h.elim fun q => q.2.2.2.2.2.2.2.2.2.2.2.2.2.2.2.2.2.2.2.1
theorem zV.gR {n m g b : Nat} {D R : zx_D} (h : zV n m g b D R) : zg_i R 0 5 = nI g := h.elim fun q => q.2.2.2.2.2.2.2.2.2.2.2.2.2.2.2.2.2.2.2.2.1
theorem zV.gB {n m g b : Nat} {D R : zx_D} (h : zV n m g b D R) : ∀ i, i < g → zg_i D 11 i = zg_i R 3 i ∧ y_B (zg_i R 3 i) := h.elim fun q => q.2.2.2.2.2.2.2.2.2.2.2.2.2.2.2.2.2.2.2.2.2.1
theorem zV.bR {n m g b : Nat} {D R : zx_D} (h : zV n m g b D R) : zg_i R 0 32 = nI b := h.elim fun q => q.2.2.2.2.2.2.2.2.2.2.2.2.2.2.2.2.2.2.2.2.2.2.1
theorem zV.bC {n m g b : Nat} {D R : zx_D} (h : zV n m g b D R) : zg_i D 14 10 = nI b := h.elim fun q => q.2.2.2.2.2.2.2.2.2.2.2.2.2.2.2.2.2.2.2.2.2.2.2.1
theorem zV.bS {n m g b : Nat} {D R : zx_D} (h : zV n m g b D R) : ∀ i, i < b → zg_l D 15 i = (zg_i R 7 i).toInt64 ∧ zg_l D 16 i = (zg_i R 8 i).toInt64 := h.elim fun q => q.2.2.2.2.2.2.2.2.2.2.2.2.2.2.2.2.2.2.2.2.2.2.2.2
theorem zV.zI {n m g b : Nat} {D R : zx_D} (h : zV n m g b D R) : zI n m D R := ⟨h.hn, h.hm, h.pC, h.pR, h.pB, h.kC, h.kR, h.kB, h.wh, h.wa, h.kr, h.kc, h.c0, h.cs, h.en⟩
abbrev zF (n m g b : Nat) (D R : zx_D) : Prop := Nonempty ((zV n m g b D R) ∧ (zg_i R 0 29 ≠ 0) ∧ (∃ a, a ≤ m ∧ zg_i D 12 3 = nI a))
theorem zF.v {n m g b : Nat} {D R : zx_D} (h : zF n m g b D R) : zV n m g b D R := h.elim fun q => q.1
theorem zF.f {n m g b : Nat} {D R : zx_D} (h : zF n m g b D R) : zg_i R 0 29 ≠ 0 := h.elim fun q => q.2.1
theorem zF.nx {n m g b : Nat} {D R : zx_D} (h : zF n m g b D R) : ∃ a, a ≤ m ∧ zg_i D 12 3 = nI a := h.elim fun q => q.2.2
theorem zF.c {n m g b : Nat} {D R : zx_D} (h : zF n m g b D R) : ¬ zg_i D 12 4 = 0 := by
  rw [h.v.fa]
  exact h.f
abbrev zS (n m g b e a : Nat) (D R : zx_D) : Prop := Nonempty ((zV n m g b D R) ∧ (zg_i R 0 29 = 0) ∧ (zg_i D 12 3 = nI a) ∧ (zg_i R 0 28 = nI a) ∧ (zg_i D 12 2 = nI e) ∧ (a ≤ e) ∧ (e ≤ m))
theorem zS.v {n m g b e a : Nat} {D R : zx_D} (h : zS n m g b e a D R) : zV n m g b D R := h.elim fun q => q.1
theorem zS.f {n m g b e a : Nat} {D R : zx_D} (h : zS n m g b e a D R) : zg_i R 0 29 = 0 := h.elim fun q => q.2.1
theorem zS.nC {n m g b e a : Nat} {D R : zx_D} (h : zS n m g b e a D R) : zg_i D 12 3 = nI a := h.elim fun q => q.2.2.1
theorem zS.nR {n m g b e a : Nat} {D R : zx_D} (h : zS n m g b e a D R) : zg_i R 0 28 = nI a := h.elim fun q => q.2.2.2.1
theorem zS.eC {n m g b e a : Nat} {D R : zx_D} (h : zS n m g b e a D R) : zg_i D 12 2 = nI e := h.elim fun q => q.2.2.2.2.1
theorem zS.ae {n m g b e a : Nat} {D R : zx_D} (h : zS n m g b e a D R) : a ≤ e := h.elim fun q => q.2.2.2.2.2.1
theorem zS.em {n m g b e a : Nat} {D R : zx_D} (h : zS n m g b e a D R) : e ≤ m := h.elim fun q => q.2.2.2.2.2.2
theorem zS.c {n m g b e a : Nat} {D R : zx_D} (h : zS n m g b e a D R) : zg_i D 12 4 = 0 := by
  rw [h.v.fa]
  exact h.f
theorem c_fail0 {D : zx_D} (w p : Int32) (h : ¬ zg_i D 12 4 = 0) : g_Cur_fail w p D = some D := by rw [g_Cur_fail, if_pos h]
theorem c_fail1 {D : zx_D} (w p : Int32) (h : zg_i D 12 4 = 0) : g_Cur_fail w p D = some (zp_i (zp_i D 12 4 w) 12 5 p) := by rw [g_Cur_fail, if_neg (fun q => q h)]
theorem r_fail0 {R : zx_D} (w p : Int32) (h : zg_i R 0 29 ≠ 0) : g_R_fail w p R = some R := by
  rw [g_R_fail, if_pos h, y_same, y_same]
theorem r_fail1 {R : zx_D} (w p : Int32) (h : zg_i R 0 29 = 0) : g_R_fail w p R = some (zp_i (zp_i R 0 30 p) 0 29 w) := by rw [g_R_fail, if_neg (fun q => q h)]
theorem zS.fail {n m g b e a : Nat} {D R : zx_D} (h : zS n m g b e a D R) {w : Int32} (p : Int32) (hw : w ≠ 0) : zF n m g b (zp_i (zp_i D 12 4 w) 12 5 p) (zp_i (zp_i R 0 30 p) 0 29 w) := ⟨⟨h.v.hn, h.v.hm, h.v.pC, h.v.pR, h.v.pB, h.v.kC, h.v.kR, h.v.kB, h.v.sz, rfl, rfl, h.v.wa, h.v.lo, h.v.kr, h.v.kc, h.v.c0, h.v.cs, h.v.en, h.v.hg, h.v.gC, h.v.gR, h.v.gB, h.v.bR, h.v.bC, h.v.bS⟩, hw, a, Nat.le_trans h.ae h.em, h.nC⟩
theorem c_has0 {D : zx_D} (k : Int32) (h : ¬ zg_i D 12 4 = 0) : g_Cur_has k D = some (0, D) := by rw [g_Cur_has, if_pos h]
theorem r_has0 {R : zx_D} (k : Int32) (h : zg_i R 0 29 ≠ 0) : g_R_has k R = some (0, R) := by
  rw [g_R_has, r_fail0 _ _ h]
  by_cases hk : k ≤ zg_i R 0 3 - zg_i R 0 28
  · rw [if_pos hk, if_pos h]
  · rw [if_neg hk, Option.bind_some, if_pos h]
theorem c_has1 {n m g b e a : Nat} {D R : zx_D} (h : zS n m g b e a D R) {k : Nat} (hk : a + k ≤ e) : g_Cur_has (nI k) D = some (1, D) := by
  have h1 := h.em
  have h2 := h.v.hm
  rw [g_Cur_has, if_neg (fun q => q h.c), h.eC, h.nC, y_sub h.ae, if_pos ((y_le (by omega) (by omega)).mpr (by omega))]
theorem c_has2 {n m g b e a : Nat} {D R : zx_D} (h : zS n m g b e a D R) {k : Nat} (hk : e < a + k) (hk2 : k < 2 ^ 30) : g_Cur_has (nI k) D = some (0, zp_i (zp_i D 12 4 (if e = m then -2 else -3)) 12 5 (nI a)) := by
  have h1 := h.em
  have h2 := h.v.hm
  have h3 := h.ae
  rw [g_Cur_has, if_neg (fun q => q h.c), h.eC, h.nC, h.v.sz, y_sub h.ae, if_neg (fun q => by have := (y_le (by omega) (by omega)).mp q; omega)]
  by_cases he : e = m
  · subst he
    rw [if_neg (fun q => q rfl), if_pos rfl, Option.bind_some, c_fail1 _ _ h.c, Option.bind_some]
    exact if_pos (by decide : ¬ (-2 : Int32) = 0)
  · rw [if_pos (fun q => he ((y_eq (by omega) (by omega)).mp q)), if_neg he, Option.bind_some, c_fail1 _ _ h.c, Option.bind_some]
    exact if_pos (by decide : ¬ (-3 : Int32) = 0)
theorem r_has1 {n m g b e a : Nat} {D R : zx_D} (h : zS n m g b e a D R) {k : Nat} (hk : a + k ≤ m) : g_R_has (nI k) R = some (1, R) := by
  have h2 := h.v.hm
  rw [g_R_has, h.v.kR, h.nR, y_sub (by omega), if_pos ((y_le (by omega) (by omega)).mpr (by omega)), if_neg (fun q => q h.f)]
theorem r_has2 {n m g b e a : Nat} {D R : zx_D} (h : zS n m g b e a D R) {k : Nat} (hk : m < a + k) (hk2 : k < 2 ^ 30) : g_R_has (nI k) R = some (0, zp_i (zp_i R 0 30 (nI a)) 0 29 (-2)) := by
  have h2 := h.v.hm
  have h1 := h.em
  have h3 := h.ae
  rw [g_R_has, h.v.kR, h.nR, y_sub (by omega), if_neg (fun q => by have := (y_le (by omega) (by omega)).mp q; omega), r_fail1 _ _ h.f, Option.bind_some]
  exact if_pos (by decide : ¬ (-2 : Int32) = 0)
theorem s_has {n m g b a : Nat} {D R : zx_D} (h : zS n m g b m a D R) {k : Nat} (hk2 : k < 2 ^ 30) : (a + k ≤ m ∧ g_Cur_has (nI k) D = some (1, D) ∧ g_R_has (nI k) R = some (1, R)) ∨ (m < a + k ∧ ∃ D' R', g_Cur_has (nI k) D = some (0, D') ∧ g_R_has (nI k) R = some (0, R') ∧ zF n m g b D' R') := by
  by_cases hk : a + k ≤ m
  · exact Or.inl ⟨hk, c_has1 h hk, r_has1 h hk⟩
  · have e := c_has2 h (k := k) (by omega) hk2
    rw [if_pos rfl] at e
    exact Or.inr ⟨by omega, _, _, e, r_has2 h (by omega) hk2, h.fail _ (by decide)⟩
theorem zS.go {n m g b e a : Nat} {D R : zx_D} (h : zS n m g b e a D R) {a' : Nat} (ha : a' ≤ e) : zS n m g b e a' (zp_i D 12 3 (nI a')) (zp_i R 0 28 (nI a')) := ⟨⟨h.v.hn, h.v.hm, h.v.pC, h.v.pR, h.v.pB, h.v.kC, h.v.kR, h.v.kB, h.v.sz, h.v.fa, h.v.wh, h.v.wa, h.v.lo, h.v.kr, h.v.kc, h.v.c0, h.v.cs, h.v.en, h.v.hg, h.v.gC, h.v.gR, h.v.gB, h.v.bR, h.v.bC, h.v.bS⟩, h.f, rfl, rfl, h.eC, ha, h.em⟩
theorem c_ew0 {D : zx_D} (x y : Int32) (h : ¬ zg_i D 12 4 = 0) : g_Cur_expectWithin x y D = some D := by
  rw [g_Cur_expectWithin, c_has0 _ h, Option.bind_some, if_neg (fun q => q rfl)]
theorem c_eb0 {D : zx_D} (x : Int32) (h : ¬ zg_i D 12 4 = 0) : g_Cur_expectByte x D = some D := by
  rw [g_Cur_expectByte, c_ew0 _ _ h, Option.bind_some]
theorem c_es0 {D : zx_D} (x : Int32) (y : Int64) (h : ¬ zg_i D 12 4 = 0) : g_Cur_expectSum x y D = some D := by
  rw [g_Cur_expectSum, c_has0 _ h, Option.bind_some, if_neg (fun q => q rfl)]
theorem c_two0 {D : zx_D} (h : ¬ zg_i D 12 4 = 0) : g_Cur_readTwo D = some (0, D) := by
  rw [g_Cur_readTwo, c_has0 _ h, Option.bind_some, if_neg (fun q => q rfl)]
theorem c_num0 {D : zx_D} (h : ¬ zg_i D 12 4 = 0) : g_Cur_readNumber D = some (-1, D) := by
  rw [g_Cur_readNumber, g_Cur_readNumber_4, if_neg (by decide), c_has0 _ h, Option.bind_some, if_pos rfl, c_fail0 _ _ h, Option.bind_some]
theorem c_en0 {D : zx_D} (x : Int64) (h : ¬ zg_i D 12 4 = 0) : g_Cur_expectNumber x D = some D := by
  rw [g_Cur_expectNumber, c_num0 h, Option.bind_some]
  split
  · rfl
  · rw [c_fail0 _ _ h, Option.bind_some]
theorem c_snd0 {D : zx_D} (h : ¬ zg_i D 12 4 = 0) : g_Cur_isSound D = some 0 := by rw [g_Cur_isSound, if_pos h]
theorem c_snd1 {D : zx_D} (h : zg_i D 12 4 = 0) : g_Cur_isSound D = some 1 := by rw [g_Cur_isSound, if_neg (fun q => q h)]
theorem c_ef0 {D : zx_D} (x : Int32) (h : ¬ zg_i D 12 4 = 0) : g_Cur_expectFilling x D = some D := by
  have key : ∀ (j k i : Nat), j < k → i + j = 3 → g_Cur_expectFilling_2 x k (nI i) D = some D := by
    intro j
    induction j with
    | zero =>
      intro k i hk hi
      match k, hk with
      | k + 1, _ => rw [g_Cur_expectFilling_2, if_pos (show (3 : Int32) ≤ nI i from (y_le (a := 3) (by omega) (by omega)).mpr (by omega))]
    | succ j ih =>
      intro k i hk hi
      match k, hk with
      | k + 1, hk =>
        rw [g_Cur_expectFilling_2, if_neg (show ¬ (3 : Int32) ≤ nI i from fun q => by have := (y_le (a := 3) (by omega) (by omega)).mp q; omega)]
        split
        · rfl
        · rw [c_eb0 _ h, Option.bind_some, y_1]
          exact ih k (i + 1) (by omega) (by omega)
  rw [g_Cur_expectFilling, show (0 : Int32) = nI 0 from rfl, key 3 10000 0 (by omega) rfl, Option.bind_some]
theorem r_hb0 {R : zx_D} (x : Int32) (h : zg_i R 0 29 ≠ 0) : g_R_headByte x R = some (0, R) := by rw [g_R_headByte, if_neg h]
theorem r_vli0 {R : zx_D} (x y : Int32) (h : zg_i R 0 29 ≠ 0) : g_R_vli x y R = some (0, R) := by
  rw [g_R_vli, g_R_vli_11, if_neg (by decide), if_pos h, r_fail0 _ _ h, Option.bind_some]
theorem r_exp0 {R : zx_D} (x : Int32) (h : zg_i R 0 29 ≠ 0) : g_R_expect x R = some R := by rw [g_R_expect, if_pos h]
theorem r_len0 {R : zx_D} (x : Int32) (h : zg_i R 0 29 ≠ 0) : g_R_length x R = some (0, R) := by rw [g_R_length, if_pos h]
theorem s_low {m p : Nat} {D R : zx_D} (hm : m ≤ 640) (hB : ∀ i, i < m → zg_i D 4 i = zg_i R 2 i ∧ y_B (zg_i R 2 i)) : ∀ (c k1 k2 : Nat) (s : Int64), c < k1 → c < k2 → p + c ≤ m → ∃ v, g_Cur_lowFirst_7 (nI p) D k1 s (nI c - 1) = some v ∧ g_R_number_7 (nI p) R k2 s (nI c - 1) = some v
  | 0, k1 + 1, k2 + 1, s, _, _, _ => ⟨s, rfl, rfl⟩
  | c + 1, k1 + 1, k2 + 1, s, h1, h2, h3 => by
    have e : nI (c + 1) - 1 = nI c := y_sub (a := c + 1) (b := 1) (by omega)
    have e2 : nI c + (-1) = nI c - 1 := (Int32.sub_eq_add_neg _ _).symm
    have e0 : ¬ nI c < 0 := fun q => by
      have := (y_lt (a := c) (b := 0) (by omega) (by omega)).mp q
      omega
    obtain ⟨b1, b2⟩ := hB (p + c) (by omega)
    rw [g_Cur_lowFirst_7, g_R_number_7, e, if_neg e0, if_neg e0, y_add, if_pos (y_in (by omega) (by omega)), if_pos (y_in (by omega) (by omega)), y_zn (by omega), e2, b1, y_lowor _ b2]
    exact s_low hm hB c k1 k2 _ (by omega) (by omega) (by omega)
theorem s_num {n m g b : Nat} {D R : zx_D} (h : zV n m g b D R) {p c : Nat} (hp : p + c ≤ m) : ∃ v, g_Cur_lowFirst (nI p) (nI c) D = some v ∧ g_R_number (nI p) (nI c) R = some v := by
  have hm := h.hm
  obtain ⟨v, h1, h2⟩ := s_low (p := p) h.hm h.kB c 10000 10000 0 (by omega) (by omega) hp
  exact ⟨v, by rw [g_Cur_lowFirst, h1, Option.bind_some], by rw [g_R_number, h2, Option.bind_some]⟩
theorem s_sum {n m g b : Nat} {D R : zx_D} (h : zV n m g b D R) {p q : Nat} (hp : p ≤ q) (hq : q ≤ m) : ∃ v, g_P_sumFour_4 (nI p) (nI q) D = some v ∧ g_R_fourOfPacked (nI p) (nI q) R = some v := by
  have hm := h.hm
  refine ⟨_, y_sum4_4 D (by omega) hp, ?_⟩
  rw [y_sumP R (by omega) hp (fun i hi => (h.kB i (by omega)).2)]
  rw [y_s4_congr (f := D.1 4) (g := R.1 2) (fun i _ hi => (h.kB i (by omega)).1)]
