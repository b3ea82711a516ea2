abbrev zI (n m : Nat) (D R : zx_D) : Prop := Nonempty ((n ≤ 400) ∧ (m ≤ 640) ∧ (zg_i D 1 1 = nI n) ∧ (zg_i R 0 1 = nI n) ∧ (∀ i, i < n → zg_i D 2 i = zg_i R 1 i ∧ y_B (zg_i R 1 i)) ∧ (zg_i D 3 1 = nI m) ∧ (zg_i R 0 3 = nI m) ∧ (∀ i, i < m → zg_i D 4 i = zg_i R 2 i ∧ y_B (zg_i R 2 i)) ∧ (zg_i D 12 5 = zg_i R 0 30) ∧ (zg_i D 5 9 = zg_i R 0 37) ∧ (zg_l D 5 10 = zg_l R 0 39) ∧ (zg_l D 5 11 = zg_l R 0 40) ∧ (zg_i D 5 8 = zg_i R 9 0) ∧ (∀ i, 1 ≤ i → i ≤ 10 → zg_i D 14 i = zg_i R 9 i) ∧ (∀ i, 1 ≤ i → i ≤ 4 → zg_i D 22 i = 0))
theorem zI.hn {n m : Nat} {D R : zx_D} (h : zI n m D R) : n ≤ 400 := h.elim fun q => q.1
theorem zI.hm {n m : Nat} {D R : zx_D} (h : zI n m D R) : m ≤ 640 := h.elim fun q => q.2.1
theorem zI.pC {n m : Nat} {D R : zx_D} (h : zI n m D R) : zg_i D 1 1 = nI n := h.elim fun q => q.2.2.1
theorem zI.pR {n m : Nat} {D R : zx_D} (h : zI n m D R) : zg_i R 0 1 = nI n := h.elim fun q => q.2.2.2.1
theorem zI.pB {n m : Nat} {D R : zx_D} (h : zI n m D R) : ∀ i, i < n → zg_i D 2 i = zg_i R 1 i ∧ y_B (zg_i R 1 i) := h.elim fun q => q.2.2.2.2.1
theorem zI.kC {n m : Nat} {D R : zx_D} (h : zI n m D R) : zg_i D 3 1 = nI m := h.elim fun q => q.2.2.2.2.2.1
theorem zI.kR {n m : Nat} {D R : zx_D} (h : zI n m D R) : zg_i R 0 3 = nI m := h.elim fun q => q.2.2.2.2.2.2.1
theorem zI.kB {n m : Nat} {D R : zx_D} (h : zI n m D R) : ∀ i, i < m → zg_i D 4 i = zg_i R 2 i ∧ y_B (zg_i R 2 i) := h.elim fun q => q.2.2.2.2.2.2.2.1
theorem zI.wh {n m : Nat} {D R : zx_D} (h : zI n m D R) : zg_i D 12 5 = zg_i R 0 30 := h.elim fun q => q.2.2.2.2.2.2.2.2.1
theorem zI.wa {n m : Nat} {D R : zx_D} (h : zI n m D R) : zg_i D 5 9 = zg_i R 0 37 := h.elim fun q => q.2.2.2.2.2.2.2.2.2.1
theorem zI.kr {n m : Nat} {D R : zx_D} (h : zI n m D R) : zg_l D 5 10 = zg_l R 0 39 := h.elim fun q => q.2.2.2.2.2.2.2.2.2.2.1
theorem zI.kc {n m : Nat} {D R : zx_D} (h : zI n m D R) : zg_l D 5 11 = zg_l R 0 40 := h.elim fun q => q.2.2.2.2.2.2.2.2.2.2.2.1
theorem zI.c0 {n m : Nat} {D R : zx_D} (h : zI n m D R) : zg_i D 5 8 = zg_i R 9 0 := h.elim fun q => q.2.2.2.2.2.2.2.2.2.2.2.2.1
theorem zI.cs {n m : Nat} {D R : zx_D} (h : zI n m D R) : ∀ i, 1 ≤ i → i ≤ 10 → zg_i D 14 i = zg_i R 9 i := h.elim fun q => q.2.2.2.2.2.2.2.2.2.2.2.2.2.1
theorem zI.en {n m : Nat} {D R : zx_D} (h : zI n m D R) : ∀ i, 1 ≤ i → i ≤ 4 → zg_i D 22 i = 0 := h.elim fun q => q.2.2.2.2.2.2.2.2.2.2.2.2.2.2
theorem zI_where {n m : Nat} {D R : zx_D} (h : zI n m D R) : ∃ r, g_P_where D = some r ∧ g_R_where R = some r := ⟨_, rfl, by rw [g_R_where, h.wh]⟩
theorem zI_range {n m : Nat} {D R : zx_D} (h : zI n m D R) : ∃ r, g_P_range D = some r ∧ g_R_range R = some r := ⟨_, rfl, by rw [g_R_range, h.kr]⟩
theorem zI_code {n m : Nat} {D R : zx_D} (h : zI n m D R) : ∃ r, g_P_code D = some r ∧ g_R_code R = some r := ⟨_, rfl, by rw [g_R_code, h.kc]⟩
theorem zI_watch {n m : Nat} {D R : zx_D} (h : zI n m D R) (k : Int32) : ∃ r D' R', g_P_watch k D = some (r, D') ∧ g_R_watch k R = some (r, R') ∧ zI n m D' R' := by
  rw [g_P_watch, g_R_watch]
  by_cases hk : 1 ≤ k
  · rw [if_pos hk, if_pos hk, if_neg (Int32.not_lt.mpr hk)]
    exact ⟨_, _, _, rfl, rfl, ⟨h.hn, h.hm, h.pC, h.pR, h.pB, h.kC, h.kR, h.kB, h.wh, rfl, h.kr, h.kc, h.c0, h.cs, h.en⟩⟩
  · rw [if_neg hk, if_neg hk, if_pos (Int32.not_le.mp hk)]
    exact ⟨_, _, _, rfl, rfl, ⟨h.hn, h.hm, h.pC, h.pR, h.pB, h.kC, h.kR, h.kB, h.wh, h.wa, h.kr, h.kc, h.c0, h.cs, h.en⟩⟩
theorem zI_count {n m : Nat} {D R : zx_D} (h : zI n m D R) (w : Int32) : ∃ r, g_P_count w D = some r ∧ g_R_count w R = some r := by
  rw [g_P_count, g_R_count]
  by_cases h0 : w < 0
  · rw [if_pos h0, if_pos h0]
    exact ⟨_, rfl, rfl⟩
  · rw [if_neg h0, if_neg h0]
    obtain ⟨a, ha, rfl⟩ := y_ex h0
    by_cases h1 : nI a < 11
    · have h1' : a < 11 := (y_lt (b := 11) ha (by omega)).mp h1
      rw [if_pos h1, if_pos (show nI a ≤ 10 from (y_le (b := 10) ha (by omega)).mpr (by omega)), if_pos (y_in h1' (by omega)), if_pos (y_in h1' (by omega)), y_zn ha]
      by_cases h2 : nI a = 0
      · have h2' : a = 0 := (y_eq (b := 0) ha (by omega)).mp h2
        subst h2'
        rw [if_neg (fun q => q h2), h.c0]
        exact ⟨_, rfl, rfl⟩
      · have h2' : a ≠ 0 := fun q => h2 (by rw [q]; rfl)
        rw [if_pos h2, h.cs a (by omega) (by omega)]
        exact ⟨_, rfl, rfl⟩
    · have h1' : ¬ a < 11 := fun q => h1 ((y_lt (b := 11) ha (by omega)).mpr q)
      rw [if_neg h1, if_neg (show ¬ nI a ≤ 10 from fun q => h1' (by have := (y_le (b := 10) ha (by omega)).mp q; omega))]
      exact ⟨_, rfl, rfl⟩
theorem zI_at0 {n m : Nat} {D R : zx_D} (h : zI n m D R) (i : Int32) : ∃ r, g_P_at_b0 i D = some r ∧ g_R_at_b0 i R = some r := by
  have hn := h.hn
  rw [g_P_at_b0, g_R_at_b0, g_P_rowOf_b0, Option.bind_some, g_Row_byteAt_1]
  by_cases h0 : i < 0
  · rw [if_pos h0, if_pos h0]
    exact ⟨_, rfl, rfl⟩
  · rw [if_neg h0, if_neg h0]
    obtain ⟨a, ha, rfl⟩ := y_ex h0
    first | rw [g_R_at_b0_20] | skip
    rw [h.pC, h.pR]
    by_cases h1 : nI n ≤ nI a
    · rw [if_pos h1, if_neg (Int32.not_lt.mpr h1)]
      exact ⟨_, rfl, rfl⟩
    · have h1' : a < n := y_nle (by omega) ha h1
      rw [if_neg h1, if_pos (Int32.not_le.mp h1), if_pos (y_in (show a < 400 by omega) (by omega)), if_pos (y_in (show a < 400 by omega) (by omega)), y_zn ha, (h.pB a h1').1]
      exact ⟨_, rfl, rfl⟩
theorem zI_cut0 {n m : Nat} {D R : zx_D} (h : zI n m D R) (i : Int32) : ∃ r D' R' n' m', g_P_cut_b0 i D = some (r, D') ∧ g_R_cut_b0 i R = some (r, R') ∧ zI n' m' D' R' := by
  have hn := h.hn
  rw [g_P_cut_b0, g_R_cut_b0, g_P_rowOf_b0, Option.bind_some]
  try rw [g_R_cut_b0_15]
  by_cases h0 : i < 0
  · rw [if_pos h0, if_pos h0]
    exact ⟨_, _, _, _, _, rfl, rfl, h⟩
  · rw [if_neg h0, if_neg h0]
    obtain ⟨a, ha, rfl⟩ := y_ex h0
    rw [h.pC, h.pR]
    by_cases h1 : nI a ≤ nI n
    · have h1' : a ≤ n := (y_le ha (by omega)).mp h1
      rw [if_pos h1, if_pos h1]
      try rw [g_R_cut_b0_40]
      refine ⟨_, _, _, a, m, rfl, rfl, ⟨by omega, h.hm, rfl, rfl, fun i hi => h.pB i (by omega), h.kC, h.kR, h.kB, h.wh, h.wa, h.kr, h.kc, h.c0, h.cs, h.en⟩⟩
    · rw [if_neg h1, if_neg h1]
      exact ⟨_, _, _, _, _, rfl, rfl, h⟩
theorem zI_push0 {n m : Nat} {D R : zx_D} (h : zI n m D R) (hb : n < 400) {x : Int32} (hx : y_B x) : zI (n + 1) m (zp_i (zp_i D 2 n x) 1 1 (nI (n + 1))) (zp_i (zp_i R 1 n x) 0 1 (nI (n + 1))) := by
  refine ⟨by omega, h.hm, rfl, rfl, fun i hi => ?_, h.kC, h.kR, h.kB, h.wh, h.wa, h.kr, h.kc, h.c0, h.cs, h.en⟩
  have e1 : zg_i (zp_i (zp_i D 2 n x) 1 1 (nI (n + 1))) 2 i = if i = n then x else zg_i D 2 i := by
    rw [y_gi, if_neg (by omega), y_gi]
    simp
  have e2 : zg_i (zp_i (zp_i R 1 n x) 0 1 (nI (n + 1))) 1 i = if i = n then x else zg_i R 1 i := by
    rw [y_gi, if_neg (by omega), y_gi]
    simp
  rw [e1, e2]
  by_cases hi2 : i = n
  · rw [if_pos hi2, if_pos hi2]
    exact ⟨rfl, hx⟩
  · rw [if_neg hi2, if_neg hi2]
    exact h.pB i (by omega)
theorem y_app1 {n : Nat} {D : zx_D} {x : Int32} (h : zg_i D 1 1 = nI n) (hn : n < 400) : g_Row_append_1 x D = some (zp_i (zp_i D 2 n x) 1 1 (nI (n + 1))) := by
  rw [g_Row_append_1, h, if_pos (show nI n < 400 from (y_lt (b := 400) (by omega) (by omega)).mpr hn), if_pos (y_in hn (by omega)), y_zn (by omega), y_1]
theorem zI_feedL0 (x : Int64) (x3 x5 : Int32) : ∀ (j kC kR n m : Nat) (D R : zx_D), j < kC → j < kR → j ≤ 8 → zI n m D R → n + j ≤ 400 → ∃ D' R', g_P_feed_b0_35 x kC (nI j - 1) D = some D' ∧ g_R_feed_b0_57 x x3 x5 kR (nI j - 1) R = some R' ∧ zI (n + j) m D' R'
  | 0, kC + 1, kR + 1, n, m, D, R, _, _, _, h, _ => ⟨D, R, rfl, rfl, h⟩
  | j + 1, kC + 1, kR + 1, n, m, D, R, h1, h2, h3, h, h4 => by
    have e : nI (j + 1) - 1 = nI j := y_sub (a := j + 1) (b := 1) (by omega)
    have e2 : nI j + (-1) = nI j - 1 := (Int32.sub_eq_add_neg _ _).symm
    have e0 : ¬ nI j < 0 := fun q => by
      have := (y_lt (a := j) (b := 0) (by omega) (by omega)).mp q
      omega
    obtain ⟨D', R', a1, a2, a3⟩ := zI_feedL0 x x3 x5 j kC kR (n + 1) m _ _ (by omega) (by omega) (by omega) (zI_push0 h (by omega) (x := (zo_lushr x (8 * nI j)).toInt32 &&& 255) y_B_of) (by omega)
    refine ⟨D', R', ?_, ?_, by rwa [show n + 1 + j = n + (j + 1) by omega] at a3⟩
    · rw [g_P_feed_b0_35, e, if_neg e0, y_app1 h.pC (by omega), Option.bind_some, e2, a1]
    · rw [g_R_feed_b0_57, e, if_neg e0, h.pR, if_pos (y_in (by omega) (by omega)), y_zn (by omega), e2, ← y_byte x (by omega), y_1]
      exact a2
theorem zI_feed0 {n m : Nat} {D R : zx_D} (h : zI n m D R) (x : Int64) (k : Int32) : ∃ r D' R' n' m', g_P_feed_b0 x k D = some (r, D') ∧ g_R_feed_b0 x k R = some (r, R') ∧ zI n' m' D' R' := by
  have hn := h.hn
  rw [g_P_feed_b0, g_R_feed_b0, g_P_rowOf_b0, Option.bind_some]
  try rw [g_R_feed_b0_16]
  by_cases h1 : k < 1
  · rw [if_pos h1, if_pos h1]
    exact ⟨_, _, _, _, _, rfl, rfl, h⟩
  rw [if_neg h1, if_neg h1]
  by_cases h2 : 8 < k
  · rw [if_pos h2, if_pos h2]
    exact ⟨_, _, _, _, _, rfl, rfl, h⟩
  rw [if_neg h2, if_neg h2]
  obtain ⟨j, hj, rfl⟩ := y_ex (x := k) (fun q => h1 (Int32.lt_trans q (by decide)))
  have h2' : j ≤ 8 := y_nlt (a := 8) (by omega) hj h2
  try rw [g_R_feed_b0_47]
  rw [g_Row_hasRoom_1, h.pC, h.pR, y_add]
  rw [show (400 : Int32) - nI n = nI (400 - n) from y_sub (a := 400) (by omega)]
  by_cases h3 : 400 - n < j
  · rw [if_pos ((y_lt (by omega) (by omega)).mpr h3), Option.bind_some, if_neg (fun q => q rfl), if_neg (show ¬ nI (n + j) ≤ 400 from fun q => by
      have := (y_le (a := n + j) (b := 400) (by omega) (by omega)).mp q
      omega)]
    exact ⟨_, _, _, _, _, rfl, rfl, h⟩
  · obtain ⟨D', R', a1, a2, a3⟩ := zI_feedL0 x (nI j) (nI n) j 10000 10000 n m D R (by omega) (by omega) h2' h (by omega)
    rw [if_neg (fun q => h3 ((y_lt (by omega) (by omega)).mp q)), Option.bind_some, if_pos (by decide), if_pos (show nI (n + j) ≤ 400 from (y_le (a := n + j) (b := 400) (by omega) (by omega)).mpr (by omega)), a1, a2, Option.bind_some, Option.bind_some, a3.pC]
    exact ⟨_, _, _, _, _, rfl, rfl, a3⟩
theorem zI_at1 {n m : Nat} {D R : zx_D} (h : zI n m D R) (i : Int32) : ∃ r, g_P_at_b1 i D = some r ∧ g_R_at_b1 i R = some r := by
  have hn := h.hm
  rw [g_P_at_b1, g_R_at_b1, g_P_rowOf_b1, Option.bind_some, g_Row_byteAt_3]
  by_cases h0 : i < 0
  · rw [if_pos h0, if_pos h0]
    exact ⟨_, rfl, rfl⟩
  · rw [if_neg h0, if_neg h0]
    obtain ⟨a, ha, rfl⟩ := y_ex h0
    first | rw [g_R_at_b1_20] | skip
    rw [h.kC, h.kR]
    by_cases h1 : nI m ≤ nI a
    · rw [if_pos h1, if_neg (Int32.not_lt.mpr h1)]
      exact ⟨_, rfl, rfl⟩
    · have h1' : a < m := y_nle (by omega) ha h1
      rw [if_neg h1, if_pos (Int32.not_le.mp h1), if_pos (y_in (show a < 640 by omega) (by omega)), if_pos (y_in (show a < 640 by omega) (by omega)), y_zn ha, (h.kB a h1').1]
      exact ⟨_, rfl, rfl⟩
theorem zI_cut1 {n m : Nat} {D R : zx_D} (h : zI n m D R) (i : Int32) : ∃ r D' R' n' m', g_P_cut_b1 i D = some (r, D') ∧ g_R_cut_b1 i R = some (r, R') ∧ zI n' m' D' R' := by
  have hn := h.hm
  rw [g_P_cut_b1, g_R_cut_b1, g_P_rowOf_b1, Option.bind_some]
  try rw [g_R_cut_b1_15]
  by_cases h0 : i < 0
  · rw [if_pos h0, if_pos h0]
    exact ⟨_, _, _, _, _, rfl, rfl, h⟩
  · rw [if_neg h0, if_neg h0]
    obtain ⟨a, ha, rfl⟩ := y_ex h0
    rw [h.kC, h.kR]
    by_cases h1 : nI a ≤ nI m
    · have h1' : a ≤ m := (y_le ha (by omega)).mp h1
      rw [if_pos h1, if_pos h1]
      try rw [g_R_cut_b1_40]
      refine ⟨_, _, _, n, a, rfl, rfl, ⟨h.hn, by omega, h.pC, h.pR, h.pB, rfl, rfl, fun i hi => h.kB i (by omega), h.wh, h.wa, h.kr, h.kc, h.c0, h.cs, h.en⟩⟩
    · rw [if_neg h1, if_neg h1]
      exact ⟨_, _, _, _, _, rfl, rfl, h⟩
theorem zI_push1 {n m : Nat} {D R : zx_D} (h : zI n m D R) (hb : m < 640) {x : Int32} (hx : y_B x) : zI n (m + 1) (zp_i (zp_i D 4 m x) 3 1 (nI (m + 1))) (zp_i (zp_i R 2 m x) 0 3 (nI (m + 1))) := by
  refine ⟨h.hn, by omega, h.pC, h.pR, h.pB, rfl, rfl, fun i hi => ?_, h.wh, h.wa, h.kr, h.kc, h.c0, h.cs, h.en⟩
  have e1 : zg_i (zp_i (zp_i D 4 m x) 3 1 (nI (m + 1))) 4 i = if i = m then x else zg_i D 4 i := by
    rw [y_gi, if_neg (by omega), y_gi]
    simp
  have e2 : zg_i (zp_i (zp_i R 2 m x) 0 3 (nI (m + 1))) 2 i = if i = m then x else zg_i R 2 i := by
    rw [y_gi, if_neg (by omega), y_gi]
    simp
  rw [e1, e2]
  by_cases hi2 : i = m
  · rw [if_pos hi2, if_pos hi2]
    exact ⟨rfl, hx⟩
  · rw [if_neg hi2, if_neg hi2]
    exact h.kB i (by omega)
theorem y_app3 {n : Nat} {D : zx_D} {x : Int32} (h : zg_i D 3 1 = nI n) (hn : n < 640) : g_Row_append_3 x D = some (zp_i (zp_i D 4 n x) 3 1 (nI (n + 1))) := by
  rw [g_Row_append_3, h, if_pos (show nI n < 640 from (y_lt (b := 640) (by omega) (by omega)).mpr hn), if_pos (y_in hn (by omega)), y_zn (by omega), y_1]
theorem zI_feedL1 (x : Int64) (x3 x5 : Int32) : ∀ (j kC kR n m : Nat) (D R : zx_D), j < kC → j < kR → j ≤ 8 → zI n m D R → m + j ≤ 640 → ∃ D' R', g_P_feed_b1_35 x kC (nI j - 1) D = some D' ∧ g_R_feed_b1_57 x x3 x5 kR (nI j - 1) R = some R' ∧ zI n (m + j) D' R'
  | 0, kC + 1, kR + 1, n, m, D, R, _, _, _, h, _ => ⟨D, R, rfl, rfl, h⟩
  | j + 1, kC + 1, kR + 1, n, m, D, R, h1, h2, h3, h, h4 => by
    have e : nI (j + 1) - 1 = nI j := y_sub (a := j + 1) (b := 1) (by omega)
    have e2 : nI j + (-1) = nI j - 1 := (Int32.sub_eq_add_neg _ _).symm
    have e0 : ¬ nI j < 0 := fun q => by
      have := (y_lt (a := j) (b := 0) (by omega) (by omega)).mp q
      omega
    obtain ⟨D', R', a1, a2, a3⟩ := zI_feedL1 x x3 x5 j kC kR n (m + 1) _ _ (by omega) (by omega) (by omega) (zI_push1 h (by omega) (x := (zo_lushr x (8 * nI j)).toInt32 &&& 255) y_B_of) (by omega)
    refine ⟨D', R', ?_, ?_, by rwa [show m + 1 + j = m + (j + 1) by omega] at a3⟩
    · rw [g_P_feed_b1_35, e, if_neg e0, y_app3 h.kC (by omega), Option.bind_some, e2, a1]
    · rw [g_R_feed_b1_57, e, if_neg e0, h.kR, if_pos (y_in (by omega) (by omega)), y_zn (by omega), e2, ← y_byte x (by omega), y_1]
      exact a2
theorem zI_feed1 {n m : Nat} {D R : zx_D} (h : zI n m D R) (x : Int64) (k : Int32) : ∃ r D' R' n' m', g_P_feed_b1 x k D = some (r, D') ∧ g_R_feed_b1 x k R = some (r, R') ∧ zI n' m' D' R' := by
  have hn := h.hm
  rw [g_P_feed_b1, g_R_feed_b1, g_P_rowOf_b1, Option.bind_some]
  try rw [g_R_feed_b1_16]
  by_cases h1 : k < 1
  · rw [if_pos h1, if_pos h1]
    exact ⟨_, _, _, _, _, rfl, rfl, h⟩
  rw [if_neg h1, if_neg h1]
  by_cases h2 : 8 < k
  · rw [if_pos h2, if_pos h2]
    exact ⟨_, _, _, _, _, rfl, rfl, h⟩
  rw [if_neg h2, if_neg h2]
  obtain ⟨j, hj, rfl⟩ := y_ex (x := k) (fun q => h1 (Int32.lt_trans q (by decide)))
  have h2' : j ≤ 8 := y_nlt (a := 8) (by omega) hj h2
  try rw [g_R_feed_b1_47]
  rw [g_Row_hasRoom_3, h.kC, h.kR, y_add]
  rw [show (640 : Int32) - nI m = nI (640 - m) from y_sub (a := 640) (by omega)]
  by_cases h3 : 640 - m < j
  · rw [if_pos ((y_lt (by omega) (by omega)).mpr h3), Option.bind_some, if_neg (fun q => q rfl), if_neg (show ¬ nI (m + j) ≤ 640 from fun q => by
      have := (y_le (a := m + j) (b := 640) (by omega) (by omega)).mp q
      omega)]
    exact ⟨_, _, _, _, _, rfl, rfl, h⟩
  · obtain ⟨D', R', a1, a2, a3⟩ := zI_feedL1 x (nI j) (nI m) j 10000 10000 n m D R (by omega) (by omega) h2' h (by omega)
    rw [if_neg (fun q => h3 ((y_lt (by omega) (by omega)).mp q)), Option.bind_some, if_pos (by decide), if_pos (show nI (m + j) ≤ 640 from (y_le (a := m + j) (b := 640) (by omega) (by omega)).mpr (by omega)), a1, a2, Option.bind_some, Option.bind_some, a3.kC]
    exact ⟨_, _, _, _, _, rfl, rfl, a3⟩
theorem zI_change {n m : Nat} {D R : zx_D} (h : zI n m D R) (i b : Int32) : ∃ r D' R', g_P_change i b D = some (r, D') ∧ g_R_change i b R = some (r, R') ∧ zI n m D' R' := by
  have hm := h.hm
  rw [g_P_change, g_R_change, g_Row_byteAt_3]
  by_cases h0 : i < 0
  · rw [if_pos h0, if_pos h0, Option.bind_some, if_pos rfl]
    exact ⟨_, _, _, rfl, rfl, h⟩
  rw [if_neg h0, if_neg h0]
  obtain ⟨a, ha, rfl⟩ := y_ex h0
  rw [h.kC, h.kR]
  by_cases h1 : nI m ≤ nI a
  · rw [if_pos h1, if_pos h1, Option.bind_some, if_pos rfl]
    exact ⟨_, _, _, rfl, rfl, h⟩
  have h1' : a < m := y_nle (by omega) ha h1
  obtain ⟨e, v, hv, ev⟩ := h.kB a h1'
  rw [if_neg h1, if_neg h1, if_pos (y_in (show a < 640 by omega) (by omega)), Option.bind_some, y_zn ha, e, if_pos (y_in (show a < 640 by omega) (by omega)), if_pos (y_in (show a < 640 by omega) (by omega)), if_pos (y_in (show a < 640 by omega) (by omega)), if_neg (show ¬ zg_i R 2 a = -1 by
    rw [ev]
    intro q
    have := congrArg Int32.toInt q
    rw [y_toInt (by omega)] at this
    have e2 : (-1 : Int32).toInt = -1 := rfl
    omega)]
  by_cases h2 : b < 0
  · rw [if_pos h2, if_pos h2]
    exact ⟨_, _, _, rfl, rfl, h⟩
  rw [if_neg h2, if_neg h2]
  by_cases h3 : b ≤ 255
  · rw [if_pos h3, if_pos h3]
    obtain ⟨c, hc, rfl⟩ := y_ex h2
    have h3' : c ≤ 255 := (y_le (b := 255) hc (by omega)).mp h3
    refine ⟨_, _, _, rfl, rfl, ⟨h.hn, h.hm, h.pC, h.pR, h.pB, h.kC, h.kR, fun i hi => ?_, h.wh, h.wa, h.kr, h.kc, h.c0, h.cs, h.en⟩⟩
    rw [y_gi, y_gi]
    by_cases h4 : i = a
    · rw [if_pos ⟨rfl, h4⟩, if_pos ⟨rfl, h4⟩]
      exact ⟨rfl, c, by omega, rfl⟩
    · rw [if_neg (fun q => h4 q.2), if_neg (fun q => h4 q.2)]
      exact h.kB i hi
  · rw [if_neg h3, if_neg h3]
    exact ⟨_, _, _, rfl, rfl, h⟩
theorem y_back1 {n d : Nat} {D : zx_D} (hn : n ≤ 400) (hd : 1 ≤ d) (hdn : d ≤ n) : g_Row_byteBack_1 (nI n) (nL d) D = some (zg_i D 2 (n - d)) := by
  rw [g_Row_byteBack_1, v_of (by omega), v_to, y_sub hdn, y_zn (by omega)]
  rw [if_neg (show ¬ nL d < 1 from fun q => by have := (v_lt (b := 1) (by omega) (by omega)).mp q; omega), if_neg (fun q => by have := (v_lt (by omega) (by omega)).mp q; omega), if_pos (show nI n ≤ 400 from (y_le (b := 400) (by omega) (by omega)).mpr hn), if_pos (y_in (by omega) (by omega))]
theorem zI_copyL (d c0 : Nat) : ∀ (j c kC kR n m : Nat) (D R : zx_D), j < kC → j < kR → c + j = c0 → c0 ≤ 400 → zI n m D R → 1 ≤ d → d ≤ n → n + j ≤ 400 → ∃ D' R', g_Row_repeat_1_3 (nL d) (nI c0) kC (nI c) D = some D' ∧ g_R_copy_41 (nI d) (nI c0) kR (nI c) R = some R' ∧ zI (n + j) m D' R'
  | 0, c, kC + 1, kR + 1, n, m, D, R, _, _, hc, h0, h, _, _, _ => by
    have e : nI c0 ≤ nI c := (y_le (by omega) (by omega)).mpr (by omega)
    exact ⟨D, R, by rw [g_Row_repeat_1_3, if_pos e], by rw [g_R_copy_41, if_pos e], h⟩
  | j + 1, c, kC + 1, kR + 1, n, m, D, R, h1, h2, hc, h0, h, hd, hdn, h4 => by
    have e : ¬ nI c0 ≤ nI c := fun q => by
      have := (y_le (by omega) (by omega)).mp q
      omega
    obtain ⟨e1, e2⟩ := h.pB (n - d) (by omega)
    obtain ⟨D', R', a1, a2, a3⟩ := zI_copyL d c0 j (c + 1) kC kR (n + 1) m _ _ (by omega) (by omega) (by omega) h0 (zI_push0 h (by omega) e2) hd (by omega) (by omega)
    refine ⟨D', R', ?_, ?_, by rwa [show n + 1 + j = n + (j + 1) by omega] at a3⟩
    · rw [g_Row_repeat_1_3, if_neg e, h.pC, y_back1 h.hn hd hdn, Option.bind_some, y_app1 h.pC (by omega), Option.bind_some, y_1, e1, a1]
    · rw [g_R_copy_41, if_neg e, h.pR, y_sub hdn, y_zn (by omega), y_zn (by omega), if_pos (y_in (by omega) (by omega)), if_pos (y_in (by omega) (by omega)), y_1, y_1, a2]
theorem zI_copy {n m : Nat} {D R : zx_D} (h : zI n m D R) (d k : Int32) : ∃ r D' R' n', g_P_copy d k D = some (r, D') ∧ g_R_copy d k R = some (r, R') ∧ zI n' m D' R' := by
  have hn := h.hn
  rw [g_P_copy, g_R_copy]
  by_cases h1 : k < 1
  · rw [if_pos h1, if_pos h1]
    exact ⟨_, _, _, _, rfl, rfl, h⟩
  rw [if_neg h1, if_neg h1]
  by_cases h2 : 300 < k
  · rw [if_pos h2, if_pos h2]
    exact ⟨_, _, _, _, rfl, rfl, h⟩
  rw [if_neg h2, if_neg h2]
  by_cases h3 : d < 1
  · rw [if_pos h3, if_pos h3]
    exact ⟨_, _, _, _, rfl, rfl, h⟩
  rw [if_neg h3, if_neg h3, h.pC, h.pR]
  by_cases h4 : nI n < d
  · rw [if_pos h4, if_pos h4]
    exact ⟨_, _, _, _, rfl, rfl, h⟩
  rw [if_neg h4, if_neg h4]
  obtain ⟨j, hj, rfl⟩ := y_ex (x := k) (fun q => h1 (Int32.lt_trans q (by decide)))
  obtain ⟨e, he, rfl⟩ := y_ex (x := d) (fun q => h3 (Int32.lt_trans q (by decide)))
  have h2' : j ≤ 300 := y_nlt (a := 300) (by omega) hj h2
  have h3' : 1 ≤ e := y_nlt (a := e) (b := 1) he (by omega) h3
  have h4' : e ≤ n := y_nlt (by omega) he h4
  rw [g_Row_hasRoom_1, h.pC, y_add, show (400 : Int32) - nI n = nI (400 - n) from y_sub (a := 400) (by omega)]
  by_cases h5 : 400 - n < j
  · rw [if_pos ((y_lt (by omega) (by omega)).mpr h5), Option.bind_some, if_neg (fun q => q rfl), if_neg (show ¬ nI (n + j) ≤ 400 from fun q => by
      have := (y_le (a := n + j) (b := 400) (by omega) (by omega)).mp q
      omega)]
    exact ⟨_, _, _, _, rfl, rfl, h⟩
  · obtain ⟨D', R', a1, a2, a3⟩ := zI_copyL e j j 0 10000 10000 n m D R (by omega) (by omega) (by omega) (by omega) h h3' h4' (by omega)
    have a1 : g_Row_repeat_1_3 (nL e) (nI j) 10000 0 D = some D' := a1
    have a2 : g_R_copy_41 (nI e) (nI j) 10000 0 R = some R' := a2
    rw [if_neg (fun q => h5 ((y_lt (by omega) (by omega)).mp q)), Option.bind_some, if_pos (by decide), if_pos (show nI (n + j) ≤ 400 from (y_le (a := n + j) (b := 400) (by omega) (by omega)).mpr (by omega)), g_Row_repeat_1, v_of he, a1, a2]
    simp only [Option.bind_some]
    rw [a3.pC, a3.pR]
    exact ⟨_, _, _, _, rfl, rfl, a3⟩
