abbrev zJ (n lc lp pb st : Nat) (D R : zx_D) : Prop := Nonempty ((∀ i, i < n → zg_i D 2 i = zg_i R 1 i ∧ y_B (zg_i R 1 i)) ∧ (n ≤ 400) ∧ (lc + lp ≤ 3) ∧ (pb ≤ 4) ∧ (zg_i D 7 3 = nI lc) ∧ (zg_i R 0 9 = nI lc) ∧ (zg_i D 7 4 = nI lp) ∧ (zg_i R 0 10 = nI lp) ∧ (zg_i D 7 5 = nI pb) ∧ (zg_i R 0 11 = nI pb) ∧ (st < 12) ∧ (zg_i D 7 2 = nI st) ∧ (zg_i R 0 12 = nI st))
theorem zJ.pB {n lc lp pb st : Nat} {D R : zx_D} (h : zJ n lc lp pb st D R) : ∀ i, i < n → zg_i D 2 i = zg_i R 1 i ∧ y_B (zg_i R 1 i) := h.elim fun q => q.1
theorem zJ.hn {n lc lp pb st : Nat} {D R : zx_D} (h : zJ n lc lp pb st D R) : n ≤ 400 := h.elim fun q => q.2.1
theorem zJ.hc {n lc lp pb st : Nat} {D R : zx_D} (h : zJ n lc lp pb st D R) : lc + lp ≤ 3 := h.elim fun q => q.2.2.1
theorem zJ.hp {n lc lp pb st : Nat} {D R : zx_D} (h : zJ n lc lp pb st D R) : pb ≤ 4 := h.elim fun q => q.2.2.2.1
theorem zJ.lcC {n lc lp pb st : Nat} {D R : zx_D} (h : zJ n lc lp pb st D R) : zg_i D 7 3 = nI lc := h.elim fun q => q.2.2.2.2.1
theorem zJ.lcR {n lc lp pb st : Nat} {D R : zx_D} (h : zJ n lc lp pb st D R) : zg_i R 0 9 = nI lc := h.elim fun q => q.2.2.2.2.2.1
theorem zJ.lpC {n lc lp pb st : Nat} {D R : zx_D} (h : zJ n lc lp pb st D R) : zg_i D 7 4 = nI lp := h.elim fun q => q.2.2.2.2.2.2.1
theorem zJ.lpR {n lc lp pb st : Nat} {D R : zx_D} (h : zJ n lc lp pb st D R) : zg_i R 0 10 = nI lp := h.elim fun q => q.2.2.2.2.2.2.2.1
theorem zJ.pbC {n lc lp pb st : Nat} {D R : zx_D} (h : zJ n lc lp pb st D R) : zg_i D 7 5 = nI pb := h.elim fun q => q.2.2.2.2.2.2.2.2.1
theorem zJ.pbR {n lc lp pb st : Nat} {D R : zx_D} (h : zJ n lc lp pb st D R) : zg_i R 0 11 = nI pb := h.elim fun q => q.2.2.2.2.2.2.2.2.2.1
theorem zJ.hs {n lc lp pb st : Nat} {D R : zx_D} (h : zJ n lc lp pb st D R) : st < 12 := h.elim fun q => q.2.2.2.2.2.2.2.2.2.2.1
theorem zJ.stC {n lc lp pb st : Nat} {D R : zx_D} (h : zJ n lc lp pb st D R) : zg_i D 7 2 = nI st := h.elim fun q => q.2.2.2.2.2.2.2.2.2.2.2.1
theorem zJ.stR {n lc lp pb st : Nat} {D R : zx_D} (h : zJ n lc lp pb st D R) : zg_i R 0 12 = nI st := h.elim fun q => q.2.2.2.2.2.2.2.2.2.2.2.2
theorem zN.j {n L sz r lc lp pb st : Nat} {D R : zx_D} (h : zN n L sz r lc lp pb st D R) : zJ n lc lp pb st D R := by
  obtain ⟨Z, hM⟩ := h.md
  exact ⟨h.pB, h.hn, hM.hc, hM.hp, hM.lcC, hM.lcR, hM.lpC, hM.lpR, hM.pbC, hM.pbR, hM.hs, hM.stC, hM.stR⟩
theorem zJ.h {n lc lp pb st : Nat} {D R D' R' : zx_D} (h : zJ n lc lp pb st D R) (q : zH D D' R R') : zJ n lc lp pb st D' R' := by
  refine ⟨fun i hi => ?_, h.hn, h.hc, h.hp, ?_, ?_, ?_, ?_, ?_, ?_, h.hs, ?_, ?_⟩
  · rw [q.c 2 i (by omega) (by omega) (by omega), q.rp 1 i (by omega) (by omega) (by omega)]
    exact h.pB i hi
  · exact (q.c 7 3 (by omega) (by omega) (by omega)).trans h.lcC
  · exact (q.r 9 (by omega) (by omega)).trans h.lcR
  · exact (q.c 7 4 (by omega) (by omega) (by omega)).trans h.lpC
  · exact (q.r 10 (by omega) (by omega)).trans h.lpR
  · exact (q.c 7 5 (by omega) (by omega) (by omega)).trans h.pbC
  · exact (q.r 11 (by omega) (by omega)).trans h.pbR
  · exact (q.c 7 2 (by omega) (by omega) (by omega)).trans h.stC
  · exact (q.r 12 (by omega) (by omega)).trans h.stR
theorem zDs.h {D R D' R' : zx_D} (h : zDs D R) (w : zH D D' R R') : zDs D' R' := h.fr (fun k => w.cl 8 k (by omega)) (fun k k1 k2 => w.rl k (by omega))
theorem zE2_fr {n L lc lp pb st : Nat} {D R D' R' : zx_D} (h : zE2 n L lc lp pb st D R) (hc : ∀ p k, p ≠ 7 → zg_i D' p k = zg_i D p k) (h7 : ∀ k, 2 ≤ k → k ≤ 5 → zg_i D' 7 k = zg_i D 7 k) (hl : ∀ p k, p ≠ 7 → p ≠ 8 → zg_l D' p k = zg_l D p k) (hr : ∀ p k, zg_i R' p k = zg_i R p k) (hrl : ∀ k, k < 13 ∨ 16 < k → zg_l R' 0 k = zg_l R 0 k) : zE2 n L lc lp pb st D' R' := by
  rcases h with ⟨sz, r, h⟩ | h
  · obtain ⟨Z, hM⟩ := h.md
    refine Or.inl ⟨sz, r, ⟨fun i hi => ?_, h.hn, ?_, ?_, h.hL1, h.hL, ?_, ?_, h.hs1, h.hs2, ?_, ?_, fun i hi => ?_, fun i h1 h2 => ?_, h.hr1, h.hr2, ?_, ?_, Z, zM_fr hM (fun k => hc 6 k (by omega)) h7 (fun k _ _ => hr 0 k) (fun k => hr 5 k)⟩⟩
    · rw [hc _ _ (by omega), hr]; exact h.pB i hi
    · rw [hc _ _ (by omega)]; exact h.bC
    · rw [hr]; exact h.bR
    · rw [hc _ _ (by omega)]; exact h.mC
    · rw [hr]; exact h.mR
    · rw [hc _ _ (by omega)]; exact h.sC
    · rw [hr]; exact h.sR
    · rw [hc _ _ (by omega), hr]; exact h.low i hi
    · rw [hc _ _ (by omega)]; exact h.zer i h1 h2
    · rw [hl _ _ (by omega) (by omega)]; exact h.rC
    · rw [hrl _ (by omega)]; exact h.rR
  · exact Or.inr ⟨by rw [hc _ _ (by omega)]; exact h.bC, by rw [hr]; exact h.bR⟩
theorem zE2_st {n L lc lp pb st st' : Nat} {D R : zx_D} (hs : st' < 12) (h : zE2 n L lc lp pb st D R) : zE2 n L lc lp pb st' (zp_i D 7 2 (nI st')) (zp_i R 0 12 (nI st')) := by
  rcases h with ⟨sz, r, h⟩ | h
  · obtain ⟨Z, hM⟩ := h.md
    have hM' : zM lc lp pb st' Z (zp_i D 7 2 (nI st')) (zp_i R 0 12 (nI st')) := by
      refine zM_up hM (fun p k hp => ?_) (fun k h3 h5 => ?_) (fun p k hp => ?_) hs rfl rfl
      · simp [y_gi, hp]
      · simp [y_gi, show k ≠ 2 by omega]
      · simp [y_gi, hp]
    exact Or.inl ⟨sz, r, ⟨h.pB, h.hn, h.bC, h.bR, h.hL1, h.hL, h.mC, h.mR, h.hs1, h.hs2, h.sC, h.sR, h.low, h.zer, h.hr1, h.hr2, h.rC, h.rR, Z, hM'⟩⟩
  · exact Or.inr ⟨h.bC, h.bR⟩
theorem pk_1 {n L lc lp pb st Q : Nat} {D R : zx_D} (J : zJ n lc lp pb st D R) (hQ : Q < 16) (hk : zg_i D 7 7 = nI 1) (h : zE2 n L lc lp pb st D R) : ∃ D' R1, g_Mdl_codeKind_k (nI Q) D = some (nI 1, D') ∧ g_R_put (nI (zf (st * 16 + Q))) (nI 0) R = some R1 ∧ zg_i R1 0 12 = nI st ∧ zE2 n L lc lp pb st D' R1 ∧ zH D D' R R1 := by
  have pw : 0 < 2 ^ (lc + lp) := Nat.two_pow_pos _
  have hs := J.hs
  have i0 : 0 + nI st * 16 + nI Q = nI (st * 16 + Q) := by rw [show (16 : Int32) = nI 16 from rfl, y_mul, show (0 : Int32) = nI 0 from rfl, y_add, y_add, Nat.zero_add]
  have i1 : 384 + nI st = nI (384 + st) := y_add _ _
  have i2 : 396 + nI st = nI (396 + st) := y_add _ _
  have i3 : 408 + nI st = nI (408 + st) := y_add _ _
  have i4 : 420 + nI st = nI (420 + st) := y_add _ _
  have i5 : 192 + nI st * 16 + nI Q = nI (192 + st * 16 + Q) := by rw [show (16 : Int32) = nI 16 from rfl, y_mul, show (192 : Int32) = nI 192 from rfl, y_add, y_add]
  have z1 : ¬ (1 : Int32) = 0 := by decide
  obtain ⟨D1, R1, a0, b0, c0, e0⟩ := p_bit2 (k := st * 16 + Q) (x := 0) J.hc h (by omega) (by omega)
  have a0' : g_Snk_codeBit (nI (st * 16 + Q)) 0 D = some (0, D1) := a0
  have J1 := J.h e0
  have k1 : zg_i D1 7 7 = nI 1 := (e0.c 7 7 (by omega) (by omega) (by omega)).trans hk
  have q1 : (nI 1 = 1) = True := eq_true rfl
  have q2 : (nI 1 = 2) = False := eq_false (by decide)
  have q4 : (nI 1 = 4) = False := eq_false (by decide)
  have l4 : (nI 1 ≤ 4) = True := eq_true (by decide)
  have l5 : (nI 1 ≤ 5) = True := eq_true (by decide)
  have l6 : (nI 1 ≤ 6) = True := eq_true (by decide)
  refine ⟨D1, R1, ?_, b0, J1.stR, c0, e0⟩
  simp only [g_Mdl_codeKind_k, hk, i0, i1, i2, i3, i4, i5, z1, J.stC, a0', J1.stC, k1, q1, q2, q4, l4, l5, l6, o_sb, ↓reduceIte, not_true_eq_false, not_false_eq_true]
  try rfl
theorem pk_2 {n L lc lp pb st Q : Nat} {D R : zx_D} (J : zJ n lc lp pb st D R) (hQ : Q < 16) (hk : zg_i D 7 7 = nI 2) (h : zE2 n L lc lp pb st D R) : ∃ D' R1 R2, g_Mdl_codeKind_k (nI Q) D = some (nI 2, D') ∧ g_R_put (nI (zf (st * 16 + Q))) (nI 1) R = some R1 ∧ zg_i R1 0 12 = nI st ∧ g_R_put (nI (zf (384 + st))) (nI 0) R1 = some R2 ∧ zg_i R2 0 12 = nI st ∧ zE2 n L lc lp pb st D' R2 ∧ zH D D' R R2 := by
  have pw : 0 < 2 ^ (lc + lp) := Nat.two_pow_pos _
  have hs := J.hs
  have i0 : 0 + nI st * 16 + nI Q = nI (st * 16 + Q) := by rw [show (16 : Int32) = nI 16 from rfl, y_mul, show (0 : Int32) = nI 0 from rfl, y_add, y_add, Nat.zero_add]
  have i1 : 384 + nI st = nI (384 + st) := y_add _ _
  have i2 : 396 + nI st = nI (396 + st) := y_add _ _
  have i3 : 408 + nI st = nI (408 + st) := y_add _ _
  have i4 : 420 + nI st = nI (420 + st) := y_add _ _
  have i5 : 192 + nI st * 16 + nI Q = nI (192 + st * 16 + Q) := by rw [show (16 : Int32) = nI 16 from rfl, y_mul, show (192 : Int32) = nI 192 from rfl, y_add, y_add]
  have z1 : ¬ (1 : Int32) = 0 := by decide
  obtain ⟨D1, R1, a0, b0, c0, e0⟩ := p_bit2 (k := st * 16 + Q) (x := 1) J.hc h (by omega) (by omega)
  have a0' : g_Snk_codeBit (nI (st * 16 + Q)) 1 D = some (1, D1) := a0
  have J1 := J.h e0
  have k1 : zg_i D1 7 7 = nI 2 := (e0.c 7 7 (by omega) (by omega) (by omega)).trans hk
  obtain ⟨D2, R2, a1, b1, c1, e1⟩ := p_bit2 (k := 384 + st) (x := 0) J.hc c0 (by omega) (by omega)
  have a1' : g_Snk_codeBit (nI (384 + st)) 0 D1 = some (0, D2) := a1
  have J2 := J1.h e1
  have k2 : zg_i D2 7 7 = nI 2 := (e1.c 7 7 (by omega) (by omega) (by omega)).trans k1
  have q1 : (nI 2 = 1) = False := eq_false (by decide)
  have q2 : (nI 2 = 2) = True := eq_true rfl
  have q4 : (nI 2 = 4) = False := eq_false (by decide)
  have l4 : (nI 2 ≤ 4) = True := eq_true (by decide)
  have l5 : (nI 2 ≤ 5) = True := eq_true (by decide)
  have l6 : (nI 2 ≤ 6) = True := eq_true (by decide)
  refine ⟨D2, R1, R2, ?_, b0, J1.stR, b1, J2.stR, c1, (e0.trans e1)⟩
  simp only [g_Mdl_codeKind_k, hk, i0, i1, i2, i3, i4, i5, z1, J.stC, a0', J1.stC, k1, a1', J2.stC, k2, q1, q2, q4, l4, l5, l6, o_sb, ↓reduceIte, not_true_eq_false, not_false_eq_true]
  try rfl
theorem pk_3 {n L lc lp pb st Q : Nat} {D R : zx_D} (J : zJ n lc lp pb st D R) (hQ : Q < 16) (hk : zg_i D 7 7 = nI 3) (h : zE2 n L lc lp pb st D R) : ∃ D' R1 R2 R3 R4, g_Mdl_codeKind_k (nI Q) D = some (nI 3, D') ∧ g_R_put (nI (zf (st * 16 + Q))) (nI 1) R = some R1 ∧ zg_i R1 0 12 = nI st ∧ g_R_put (nI (zf (384 + st))) (nI 1) R1 = some R2 ∧ zg_i R2 0 12 = nI st ∧ g_R_put (nI (zf (396 + st))) (nI 0) R2 = some R3 ∧ zg_i R3 0 12 = nI st ∧ g_R_put (nI (zf (192 + st * 16 + Q))) (nI 0) R3 = some R4 ∧ zg_i R4 0 12 = nI st ∧ zE2 n L lc lp pb st D' R4 ∧ zH D D' R R4 := by
  have pw : 0 < 2 ^ (lc + lp) := Nat.two_pow_pos _
  have hs := J.hs
  have i0 : 0 + nI st * 16 + nI Q = nI (st * 16 + Q) := by rw [show (16 : Int32) = nI 16 from rfl, y_mul, show (0 : Int32) = nI 0 from rfl, y_add, y_add, Nat.zero_add]
  have i1 : 384 + nI st = nI (384 + st) := y_add _ _
  have i2 : 396 + nI st = nI (396 + st) := y_add _ _
  have i3 : 408 + nI st = nI (408 + st) := y_add _ _
  have i4 : 420 + nI st = nI (420 + st) := y_add _ _
  have i5 : 192 + nI st * 16 + nI Q = nI (192 + st * 16 + Q) := by rw [show (16 : Int32) = nI 16 from rfl, y_mul, show (192 : Int32) = nI 192 from rfl, y_add, y_add]
  have z1 : ¬ (1 : Int32) = 0 := by decide
  obtain ⟨D1, R1, a0, b0, c0, e0⟩ := p_bit2 (k := st * 16 + Q) (x := 1) J.hc h (by omega) (by omega)
  have a0' : g_Snk_codeBit (nI (st * 16 + Q)) 1 D = some (1, D1) := a0
  have J1 := J.h e0
  have k1 : zg_i D1 7 7 = nI 3 := (e0.c 7 7 (by omega) (by omega) (by omega)).trans hk
  obtain ⟨D2, R2, a1, b1, c1, e1⟩ := p_bit2 (k := 384 + st) (x := 1) J.hc c0 (by omega) (by omega)
  have a1' : g_Snk_codeBit (nI (384 + st)) 1 D1 = some (1, D2) := a1
  have J2 := J1.h e1
  have k2 : zg_i D2 7 7 = nI 3 := (e1.c 7 7 (by omega) (by omega) (by omega)).trans k1
  obtain ⟨D3, R3, a2, b2, c2, e2⟩ := p_bit2 (k := 396 + st) (x := 0) J.hc c1 (by omega) (by omega)
  have a2' : g_Snk_codeBit (nI (396 + st)) 0 D2 = some (0, D3) := a2
  have J3 := J2.h e2
  have k3 : zg_i D3 7 7 = nI 3 := (e2.c 7 7 (by omega) (by omega) (by omega)).trans k2
  obtain ⟨D4, R4, a3, b3, c3, e3⟩ := p_bit2 (k := 192 + st * 16 + Q) (x := 0) J.hc c2 (by omega) (by omega)
  have a3' : g_Snk_codeBit (nI (192 + st * 16 + Q)) 0 D3 = some (0, D4) := a3
  have J4 := J3.h e3
  have k4 : zg_i D4 7 7 = nI 3 := (e3.c 7 7 (by omega) (by omega) (by omega)).trans k3
  have q1 : (nI 3 = 1) = False := eq_false (by decide)
  have q2 : (nI 3 = 2) = False := eq_false (by decide)
  have q4 : (nI 3 = 4) = False := eq_false (by decide)
  have l4 : (nI 3 ≤ 4) = True := eq_true (by decide)
  have l5 : (nI 3 ≤ 5) = True := eq_true (by decide)
  have l6 : (nI 3 ≤ 6) = True := eq_true (by decide)
  refine ⟨D4, R1, R2, R3, R4, ?_, b0, J1.stR, b1, J2.stR, b2, J3.stR, b3, J4.stR, c3, (e0.trans (e1.trans (e2.trans e3)))⟩
  simp only [g_Mdl_codeKind_k, hk, i0, i1, i2, i3, i4, i5, z1, J.stC, a0', J1.stC, k1, a1', J2.stC, k2, a2', J3.stC, k3, a3', J4.stC, k4, q1, q2, q4, l4, l5, l6, o_sb, ↓reduceIte, not_true_eq_false, not_false_eq_true]
  try rfl
theorem pk_4 {n L lc lp pb st Q : Nat} {D R : zx_D} (J : zJ n lc lp pb st D R) (hQ : Q < 16) (hk : zg_i D 7 7 = nI 4) (h : zE2 n L lc lp pb st D R) : ∃ D' R1 R2 R3 R4, g_Mdl_codeKind_k (nI Q) D = some (nI 4, D') ∧ g_R_put (nI (zf (st * 16 + Q))) (nI 1) R = some R1 ∧ zg_i R1 0 12 = nI st ∧ g_R_put (nI (zf (384 + st))) (nI 1) R1 = some R2 ∧ zg_i R2 0 12 = nI st ∧ g_R_put (nI (zf (396 + st))) (nI 0) R2 = some R3 ∧ zg_i R3 0 12 = nI st ∧ g_R_put (nI (zf (192 + st * 16 + Q))) (nI 1) R3 = some R4 ∧ zg_i R4 0 12 = nI st ∧ zE2 n L lc lp pb st D' R4 ∧ zH D D' R R4 := by
  have pw : 0 < 2 ^ (lc + lp) := Nat.two_pow_pos _
  have hs := J.hs
  have i0 : 0 + nI st * 16 + nI Q = nI (st * 16 + Q) := by rw [show (16 : Int32) = nI 16 from rfl, y_mul, show (0 : Int32) = nI 0 from rfl, y_add, y_add, Nat.zero_add]
  have i1 : 384 + nI st = nI (384 + st) := y_add _ _
  have i2 : 396 + nI st = nI (396 + st) := y_add _ _
  have i3 : 408 + nI st = nI (408 + st) := y_add _ _
  have i4 : 420 + nI st = nI (420 + st) := y_add _ _
  have i5 : 192 + nI st * 16 + nI Q = nI (192 + st * 16 + Q) := by rw [show (16 : Int32) = nI 16 from rfl, y_mul, show (192 : Int32) = nI 192 from rfl, y_add, y_add]
  have z1 : ¬ (1 : Int32) = 0 := by decide
  obtain ⟨D1, R1, a0, b0, c0, e0⟩ := p_bit2 (k := st * 16 + Q) (x := 1) J.hc h (by omega) (by omega)
  have a0' : g_Snk_codeBit (nI (st * 16 + Q)) 1 D = some (1, D1) := a0
  have J1 := J.h e0
  have k1 : zg_i D1 7 7 = nI 4 := (e0.c 7 7 (by omega) (by omega) (by omega)).trans hk
  obtain ⟨D2, R2, a1, b1, c1, e1⟩ := p_bit2 (k := 384 + st) (x := 1) J.hc c0 (by omega) (by omega)
  have a1' : g_Snk_codeBit (nI (384 + st)) 1 D1 = some (1, D2) := a1
  have J2 := J1.h e1
  have k2 : zg_i D2 7 7 = nI 4 := (e1.c 7 7 (by omega) (by omega) (by omega)).trans k1
  obtain ⟨D3, R3, a2, b2, c2, e2⟩ := p_bit2 (k := 396 + st) (x := 0) J.hc c1 (by omega) (by omega)
  have a2' : g_Snk_codeBit (nI (396 + st)) 0 D2 = some (0, D3) := a2
  have J3 := J2.h e2
  have k3 : zg_i D3 7 7 = nI 4 := (e2.c 7 7 (by omega) (by omega) (by omega)).trans k2
  obtain ⟨D4, R4, a3, b3, c3, e3⟩ := p_bit2 (k := 192 + st * 16 + Q) (x := 1) J.hc c2 (by omega) (by omega)
  have a3' : g_Snk_codeBit (nI (192 + st * 16 + Q)) 1 D3 = some (1, D4) := a3
  have J4 := J3.h e3
  have k4 : zg_i D4 7 7 = nI 4 := (e3.c 7 7 (by omega) (by omega) (by omega)).trans k3
  have q1 : (nI 4 = 1) = False := eq_false (by decide)
  have q2 : (nI 4 = 2) = False := eq_false (by decide)
  have q4 : (nI 4 = 4) = True := eq_true rfl
  have l4 : (nI 4 ≤ 4) = True := eq_true (by decide)
  have l5 : (nI 4 ≤ 5) = True := eq_true (by decide)
  have l6 : (nI 4 ≤ 6) = True := eq_true (by decide)
  refine ⟨D4, R1, R2, R3, R4, ?_, b0, J1.stR, b1, J2.stR, b2, J3.stR, b3, J4.stR, c3, (e0.trans (e1.trans (e2.trans e3)))⟩
  simp only [g_Mdl_codeKind_k, hk, i0, i1, i2, i3, i4, i5, z1, J.stC, a0', J1.stC, k1, a1', J2.stC, k2, a2', J3.stC, k3, a3', J4.stC, k4, q1, q2, q4, l4, l5, l6, o_sb, ↓reduceIte, not_true_eq_false, not_false_eq_true]
  try rfl
theorem pk_5 {n L lc lp pb st Q : Nat} {D R : zx_D} (J : zJ n lc lp pb st D R) (hQ : Q < 16) (hk : zg_i D 7 7 = nI 5) (h : zE2 n L lc lp pb st D R) : ∃ D' R1 R2 R3 R4, g_Mdl_codeKind_k (nI Q) D = some (nI 5, D') ∧ g_R_put (nI (zf (st * 16 + Q))) (nI 1) R = some R1 ∧ zg_i R1 0 12 = nI st ∧ g_R_put (nI (zf (384 + st))) (nI 1) R1 = some R2 ∧ zg_i R2 0 12 = nI st ∧ g_R_put (nI (zf (396 + st))) (nI 1) R2 = some R3 ∧ zg_i R3 0 12 = nI st ∧ g_R_put (nI (zf (408 + st))) (nI 0) R3 = some R4 ∧ zg_i R4 0 12 = nI st ∧ zE2 n L lc lp pb st D' R4 ∧ zH D D' R R4 := by
  have pw : 0 < 2 ^ (lc + lp) := Nat.two_pow_pos _
  have hs := J.hs
  have i0 : 0 + nI st * 16 + nI Q = nI (st * 16 + Q) := by rw [show (16 : Int32) = nI 16 from rfl, y_mul, show (0 : Int32) = nI 0 from rfl, y_add, y_add, Nat.zero_add]
  have i1 : 384 + nI st = nI (384 + st) := y_add _ _
  have i2 : 396 + nI st = nI (396 + st) := y_add _ _
  have i3 : 408 + nI st = nI (408 + st) := y_add _ _
  have i4 : 420 + nI st = nI (420 + st) := y_add _ _
  have i5 : 192 + nI st * 16 + nI Q = nI (192 + st * 16 + Q) := by rw [show (16 : Int32) = nI 16 from rfl, y_mul, show (192 : Int32) = nI 192 from rfl, y_add, y_add]
  have z1 : ¬ (1 : Int32) = 0 := by decide
  obtain ⟨D1, R1, a0, b0, c0, e0⟩ := p_bit2 (k := st * 16 + Q) (x := 1) J.hc h (by omega) (by omega)
  have a0' : g_Snk_codeBit (nI (st * 16 + Q)) 1 D = some (1, D1) := a0
  have J1 := J.h e0
  have k1 : zg_i D1 7 7 = nI 5 := (e0.c 7 7 (by omega) (by omega) (by omega)).trans hk
  obtain ⟨D2, R2, a1, b1, c1, e1⟩ := p_bit2 (k := 384 + st) (x := 1) J.hc c0 (by omega) (by omega)
  have a1' : g_Snk_codeBit (nI (384 + st)) 1 D1 = some (1, D2) := a1
  have J2 := J1.h e1
  have k2 : zg_i D2 7 7 = nI 5 := (e1.c 7 7 (by omega) (by omega) (by omega)).trans k1
  obtain ⟨D3, R3, a2, b2, c2, e2⟩ := p_bit2 (k := 396 + st) (x := 1) J.hc c1 (by omega) (by omega)
  have a2' : g_Snk_codeBit (nI (396 + st)) 1 D2 = some (1, D3) := a2
  have J3 := J2.h e2
  have k3 : zg_i D3 7 7 = nI 5 := (e2.c 7 7 (by omega) (by omega) (by omega)).trans k2
  obtain ⟨D4, R4, a3, b3, c3, e3⟩ := p_bit2 (k := 408 + st) (x := 0) J.hc c2 (by omega) (by omega)
  have a3' : g_Snk_codeBit (nI (408 + st)) 0 D3 = some (0, D4) := a3
  have J4 := J3.h e3
  have k4 : zg_i D4 7 7 = nI 5 := (e3.c 7 7 (by omega) (by omega) (by omega)).trans k3
  have q1 : (nI 5 = 1) = False := eq_false (by decide)
  have q2 : (nI 5 = 2) = False := eq_false (by decide)
  have q4 : (nI 5 = 4) = False := eq_false (by decide)
  have l4 : (nI 5 ≤ 4) = False := eq_false (by decide)
  have l5 : (nI 5 ≤ 5) = True := eq_true (by decide)
  have l6 : (nI 5 ≤ 6) = True := eq_true (by decide)
  refine ⟨D4, R1, R2, R3, R4, ?_, b0, J1.stR, b1, J2.stR, b2, J3.stR, b3, J4.stR, c3, (e0.trans (e1.trans (e2.trans e3)))⟩
  simp only [g_Mdl_codeKind_k, hk, i0, i1, i2, i3, i4, i5, z1, J.stC, a0', J1.stC, k1, a1', J2.stC, k2, a2', J3.stC, k3, a3', J4.stC, k4, q1, q2, q4, l4, l5, l6, o_sb, ↓reduceIte, not_true_eq_false, not_false_eq_true]
  try rfl
theorem pk_6 {n L lc lp pb st Q : Nat} {D R : zx_D} (J : zJ n lc lp pb st D R) (hQ : Q < 16) (hk : zg_i D 7 7 = nI 6) (h : zE2 n L lc lp pb st D R) : ∃ D' R1 R2 R3 R4 R5, g_Mdl_codeKind_k (nI Q) D = some (nI 6, D') ∧ g_R_put (nI (zf (st * 16 + Q))) (nI 1) R = some R1 ∧ zg_i R1 0 12 = nI st ∧ g_R_put (nI (zf (384 + st))) (nI 1) R1 = some R2 ∧ zg_i R2 0 12 = nI st ∧ g_R_put (nI (zf (396 + st))) (nI 1) R2 = some R3 ∧ zg_i R3 0 12 = nI st ∧ g_R_put (nI (zf (408 + st))) (nI 1) R3 = some R4 ∧ zg_i R4 0 12 = nI st ∧ g_R_put (nI (zf (420 + st))) (nI 0) R4 = some R5 ∧ zg_i R5 0 12 = nI st ∧ zE2 n L lc lp pb st D' R5 ∧ zH D D' R R5 := by
  have pw : 0 < 2 ^ (lc + lp) := Nat.two_pow_pos _
  have hs := J.hs
  have i0 : 0 + nI st * 16 + nI Q = nI (st * 16 + Q) := by rw [show (16 : Int32) = nI 16 from rfl, y_mul, show (0 : Int32) = nI 0 from rfl, y_add, y_add, Nat.zero_add]
  have i1 : 384 + nI st = nI (384 + st) := y_add _ _
  have i2 : 396 + nI st = nI (396 + st) := y_add _ _
  have i3 : 408 + nI st = nI (408 + st) := y_add _ _
  have i4 : 420 + nI st = nI (420 + st) := y_add _ _
  have i5 : 192 + nI st * 16 + nI Q = nI (192 + st * 16 + Q) := by rw [show (16 : Int32) = nI 16 from rfl, y_mul, show (192 : Int32) = nI 192 from rfl, y_add, y_add]
  have z1 : ¬ (1 : Int32) = 0 := by decide
  obtain ⟨D1, R1, a0, b0, c0, e0⟩ := p_bit2 (k := st * 16 + Q) (x := 1) J.hc h (by omega) (by omega)
  have a0' : g_Snk_codeBit (nI (st * 16 + Q)) 1 D = some (1, D1) := a0
  have J1 := J.h e0
  have k1 : zg_i D1 7 7 = nI 6 := (e0.c 7 7 (by omega) (by omega) (by omega)).trans hk
  obtain ⟨D2, R2, a1, b1, c1, e1⟩ := p_bit2 (k := 384 + st) (x := 1) J.hc c0 (by omega) (by omega)
  have a1' : g_Snk_codeBit (nI (384 + st)) 1 D1 = some (1, D2) := a1
  have J2 := J1.h e1
  have k2 : zg_i D2 7 7 = nI 6 := (e1.c 7 7 (by omega) (by omega) (by omega)).trans k1
  obtain ⟨D3, R3, a2, b2, c2, e2⟩ := p_bit2 (k := 396 + st) (x := 1) J.hc c1 (by omega) (by omega)
  have a2' : g_Snk_codeBit (nI (396 + st)) 1 D2 = some (1, D3) := a2
  have J3 := J2.h e2
  have k3 : zg_i D3 7 7 = nI 6 := (e2.c 7 7 (by omega) (by omega) (by omega)).trans k2
  obtain ⟨D4, R4, a3, b3, c3, e3⟩ := p_bit2 (k := 408 + st) (x := 1) J.hc c2 (by omega) (by omega)
  have a3' : g_Snk_codeBit (nI (408 + st)) 1 D3 = some (1, D4) := a3
  have J4 := J3.h e3
  have k4 : zg_i D4 7 7 = nI 6 := (e3.c 7 7 (by omega) (by omega) (by omega)).trans k3
  obtain ⟨D5, R5, a4, b4, c4, e4⟩ := p_bit2 (k := 420 + st) (x := 0) J.hc c3 (by omega) (by omega)
  have a4' : g_Snk_codeBit (nI (420 + st)) 0 D4 = some (0, D5) := a4
  have J5 := J4.h e4
  have k5 : zg_i D5 7 7 = nI 6 := (e4.c 7 7 (by omega) (by omega) (by omega)).trans k4
  have q1 : (nI 6 = 1) = False := eq_false (by decide)
  have q2 : (nI 6 = 2) = False := eq_false (by decide)
  have q4 : (nI 6 = 4) = False := eq_false (by decide)
  have l4 : (nI 6 ≤ 4) = False := eq_false (by decide)
  have l5 : (nI 6 ≤ 5) = False := eq_false (by decide)
  have l6 : (nI 6 ≤ 6) = True := eq_true (by decide)
  refine ⟨D5, R1, R2, R3, R4, R5, ?_, b0, J1.stR, b1, J2.stR, b2, J3.stR, b3, J4.stR, b4, J5.stR, c4, (e0.trans (e1.trans (e2.trans (e3.trans e4))))⟩
  simp only [g_Mdl_codeKind_k, hk, i0, i1, i2, i3, i4, i5, z1, J.stC, a0', J1.stC, k1, a1', J2.stC, k2, a2', J3.stC, k3, a3', J4.stC, k4, a4', J5.stC, k5, q1, q2, q4, l4, l5, l6, o_sb, ↓reduceIte, not_true_eq_false, not_false_eq_true]
  try rfl
theorem pk_7 {n L lc lp pb st Q : Nat} {D R : zx_D} (J : zJ n lc lp pb st D R) (hQ : Q < 16) (hk : zg_i D 7 7 = nI 7) (h : zE2 n L lc lp pb st D R) : ∃ D' R1 R2 R3 R4 R5, g_Mdl_codeKind_k (nI Q) D = some (nI 7, D') ∧ g_R_put (nI (zf (st * 16 + Q))) (nI 1) R = some R1 ∧ zg_i R1 0 12 = nI st ∧ g_R_put (nI (zf (384 + st))) (nI 1) R1 = some R2 ∧ zg_i R2 0 12 = nI st ∧ g_R_put (nI (zf (396 + st))) (nI 1) R2 = some R3 ∧ zg_i R3 0 12 = nI st ∧ g_R_put (nI (zf (408 + st))) (nI 1) R3 = some R4 ∧ zg_i R4 0 12 = nI st ∧ g_R_put (nI (zf (420 + st))) (nI 1) R4 = some R5 ∧ zg_i R5 0 12 = nI st ∧ zE2 n L lc lp pb st D' R5 ∧ zH D D' R R5 := by
  have pw : 0 < 2 ^ (lc + lp) := Nat.two_pow_pos _
  have hs := J.hs
  have i0 : 0 + nI st * 16 + nI Q = nI (st * 16 + Q) := by rw [show (16 : Int32) = nI 16 from rfl, y_mul, show (0 : Int32) = nI 0 from rfl, y_add, y_add, Nat.zero_add]
  have i1 : 384 + nI st = nI (384 + st) := y_add _ _
  have i2 : 396 + nI st = nI (396 + st) := y_add _ _
  have i3 : 408 + nI st = nI (408 + st) := y_add _ _
  have i4 : 420 + nI st = nI (420 + st) := y_add _ _
  have i5 : 192 + nI st * 16 + nI Q = nI (192 + st * 16 + Q) := by rw [show (16 : Int32) = nI 16 from rfl, y_mul, show (192 : Int32) = nI 192 from rfl, y_add, y_add]
  have z1 : ¬ (1 : Int32) = 0 := by decide
  obtain ⟨D1, R1, a0, b0, c0, e0⟩ := p_bit2 (k := st * 16 + Q) (x := 1) J.hc h (by omega) (by omega)
  have a0' : g_Snk_codeBit (nI (st * 16 + Q)) 1 D = some (1, D1) := a0
  have J1 := J.h e0
  have k1 : zg_i D1 7 7 = nI 7 := (e0.c 7 7 (by omega) (by omega) (by omega)).trans hk
  obtain ⟨D2, R2, a1, b1, c1, e1⟩ := p_bit2 (k := 384 + st) (x := 1) J.hc c0 (by omega) (by omega)
  have a1' : g_Snk_codeBit (nI (384 + st)) 1 D1 = some (1, D2) := a1
  have J2 := J1.h e1
  have k2 : zg_i D2 7 7 = nI 7 := (e1.c 7 7 (by omega) (by omega) (by omega)).trans k1
  obtain ⟨D3, R3, a2, b2, c2, e2⟩ := p_bit2 (k := 396 + st) (x := 1) J.hc c1 (by omega) (by omega)
  have a2' : g_Snk_codeBit (nI (396 + st)) 1 D2 = some (1, D3) := a2
  have J3 := J2.h e2
  have k3 : zg_i D3 7 7 = nI 7 := (e2.c 7 7 (by omega) (by omega) (by omega)).trans k2
  obtain ⟨D4, R4, a3, b3, c3, e3⟩ := p_bit2 (k := 408 + st) (x := 1) J.hc c2 (by omega) (by omega)
  have a3' : g_Snk_codeBit (nI (408 + st)) 1 D3 = some (1, D4) := a3
  have J4 := J3.h e3
  have k4 : zg_i D4 7 7 = nI 7 := (e3.c 7 7 (by omega) (by omega) (by omega)).trans k3
  obtain ⟨D5, R5, a4, b4, c4, e4⟩ := p_bit2 (k := 420 + st) (x := 1) J.hc c3 (by omega) (by omega)
  have a4' : g_Snk_codeBit (nI (420 + st)) 1 D4 = some (1, D5) := a4
  have J5 := J4.h e4
  have k5 : zg_i D5 7 7 = nI 7 := (e4.c 7 7 (by omega) (by omega) (by omega)).trans k4
  have q1 : (nI 7 = 1) = False := eq_false (by decide)
  have q2 : (nI 7 = 2) = False := eq_false (by decide)
  have q4 : (nI 7 = 4) = False := eq_false (by decide)
  have l4 : (nI 7 ≤ 4) = False := eq_false (by decide)
  have l5 : (nI 7 ≤ 5) = False := eq_false (by decide)
  have l6 : (nI 7 ≤ 6) = False := eq_false (by decide)
  refine ⟨D5, R1, R2, R3, R4, R5, ?_, b0, J1.stR, b1, J2.stR, b2, J3.stR, b3, J4.stR, b4, J5.stR, c4, (e0.trans (e1.trans (e2.trans (e3.trans e4))))⟩
  simp only [g_Mdl_codeKind_k, hk, i0, i1, i2, i3, i4, i5, z1, J.stC, a0', J1.stC, k1, a1', J2.stC, k2, a2', J3.stC, k3, a3', J4.stC, k4, a4', J5.stC, k5, q1, q2, q4, l4, l5, l6, o_sb, ↓reduceIte, not_true_eq_false, not_false_eq_true]
  try rfl
def c_tkk (kd : Nat) (q x1 x2 x3 : Int32) (D : zx_D) : Option zx_D :=
  if kd = 1 then
    (g_Mdl_codeLiteral_k (2052 + (768 * ((zo_shl (x1 &&& ((zo_shl 1 (zg_i D 7 4)) - 1)) (zg_i D 7 3)) + (zo_ushr x2 (8 - (zg_i D 7 3)))))) x3 (zp_i D 7 7 1)).bind fun q7 =>
    if 4 ≤ zg_i q7.2 7 2 then
      if 10 ≤ zg_i q7.2 7 2 then
        some (zp_i (zp_i (zp_i q7.2 7 8 q7.1) 7 9 1) 7 2 ((zg_i q7.2 7 2) - 6))
      else
        some (zp_i (zp_i (zp_i q7.2 7 8 q7.1) 7 9 1) 7 2 ((zg_i q7.2 7 2) - 3))
    else
      some (zp_i (zp_i (zp_i q7.2 7 8 q7.1) 7 9 1) 7 2 0)
  else if kd = 2 then
    (g_Mdl_codeLength_k 432 q (zp_i D 7 7 2)).bind fun q4 =>
      (g_Mdl_codeDistance_k (zp_i q4.2 7 9 q4.1)).bind fun q5 =>
      (g_Mdl_bringForward 3 q5.1 (zp_l q5.2 7 10 q5.1)).bind fun q6 =>
      if 7 ≤ zg_i q6 7 2 then
        some (zp_i q6 7 2 10)
      else
        some (zp_i q6 7 2 7)
  else if kd = 3 then
    if 7 ≤ zg_i D 7 2 then
      some (zp_i (zp_i (zp_i D 7 7 3) 7 9 1) 7 2 11)
    else
      some (zp_i (zp_i (zp_i D 7 7 3) 7 9 1) 7 2 9)
  else
    (g_Mdl_bringForward (nI (kd - 4)) (zg_l D 8 (kd - 4)) (zp_i D 7 7 (nI kd))).bind fun q2 =>
        (g_Mdl_codeLength_k 946 q q2).bind fun q3 =>
        if 7 ≤ zg_i q3.2 7 2 then
          some (zp_i (zp_i q3.2 7 9 q3.1) 7 2 11)
        else
          some (zp_i (zp_i q3.2 7 9 q3.1) 7 2 8)
theorem c_stepk {kd : Nat} (h1 : 1 ≤ kd) (h7 : kd ≤ 7) {x1 x2 x3 q : Int32} {D D1 : zx_D} (hq : x1 &&& ((zo_shl 1 (zg_i D 7 5)) - 1) = q) (hk : g_Mdl_codeKind_k q D = some (nI kd, D1)) : g_Mdl_step_k x1 x2 x3 D = c_tkk kd q x1 x2 x3 D1 := by
  rw [g_Mdl_step_k, hq, hk, o_sb]
  unfold c_tkk
  have hkd : kd = 1 ∨ kd = 2 ∨ kd = 3 ∨ (4 ≤ kd ∧ kd ≤ 7) := by omega
  rcases hkd with rfl | rfl | rfl | ⟨ha, hb⟩
  · rw [if_neg (fun t => t rfl), if_pos rfl]
    rfl
  · rw [if_pos (show ¬ nI 2 = 1 by decide), if_neg (show ¬ ¬ nI 2 = 2 from fun t => t rfl), if_neg (show ¬ (2 : Nat) = 1 by decide), if_pos (show (2 : Nat) = 2 from rfl)]
    rfl
  · rw [if_pos (show ¬ nI 3 = 1 by decide), if_pos (show ¬ nI 3 = 2 by decide), if_neg (show ¬ ¬ nI 3 = 3 from fun t => t rfl), if_neg (show ¬ (3 : Nat) = 1 by decide), if_neg (show ¬ (3 : Nat) = 2 by decide), if_pos (show (3 : Nat) = 3 from rfl)]
    rfl
  · have e : ∀ j : Nat, j < 4 → ¬ nI kd = nI j := fun j hj t => by have := (y_eq (by omega) (by omega)).mp t; omega
    have e1 : ¬ nI kd = 1 := e 1 (by omega)
    have e2 : ¬ nI kd = 2 := e 2 (by omega)
    have e3 : ¬ nI kd = 3 := e 3 (by omega)
    have e4 : nI kd - 4 = nI (kd - 4) := y_sub (b := 4) ha
    have z1 : zk_in (nI (kd - 4)) 4 = true := y_in (by omega) (by omega)
    have z2 : zn (nI (kd - 4)) = kd - 4 := y_zn (by omega)
    have k1 : ¬ kd = 1 := by omega
    have k2 : ¬ kd = 2 := by omega
    have k3 : ¬ kd = 3 := by omega
    simp only [e1, e2, e3, k1, k2, k3, e4, z1, z2, ↓reduceIte, not_false_eq_true]
theorem c_tkkr (k : Nat) (q x1 x2 x3 : Int32) (D : zx_D) : c_tkk (4 + k) q x1 x2 x3 D = (g_Mdl_bringForward (nI k) (zg_l D 8 k) (zp_i D 7 7 (nI (4 + k)))).bind fun q2 =>
        (g_Mdl_codeLength_k 946 q q2).bind fun q3 =>
        if 7 ≤ zg_i q3.2 7 2 then
          some (zp_i (zp_i q3.2 7 9 q3.1) 7 2 11)
        else
          some (zp_i (zp_i q3.2 7 9 q3.1) 7 2 8) := by
  unfold c_tkk
  rw [if_neg (by omega), if_neg (by omega), if_neg (by omega), show 4 + k - 4 = k by omega]
theorem c_tkk2 (q x1 x2 x3 : Int32) (D : zx_D) : c_tkk 2 q x1 x2 x3 D = (g_Mdl_codeLength_k 432 q (zp_i D 7 7 2)).bind fun q4 =>
      (g_Mdl_codeDistance_k (zp_i q4.2 7 9 q4.1)).bind fun q5 =>
      (g_Mdl_bringForward 3 q5.1 (zp_l q5.2 7 10 q5.1)).bind fun q6 =>
      if 7 ≤ zg_i q6 7 2 then
        some (zp_i q6 7 2 10)
      else
        some (zp_i q6 7 2 7) := by
  unfold c_tkk
  rw [if_neg (by decide), if_pos rfl]
theorem p_litL {n L lc lp pb st ctx mC mR ob : Nat} (hc : lc + lp ≤ 3) (hctx : ctx < 2 ^ (lc + lp)) (hmC : mC < 256) (hmR : mR < 256) (ho : ob < 256) : ∀ (j k1 k2 al v : Nat) (D R : zx_D), j ≤ 8 → j < k1 → j < k2 → al ≤ 1 → (al = 1 → mC = mR) → v = 2 ^ (8 - j) + ob / 2 ^ j → zg_i D 7 8 = nI ob → zE2 n L lc lp pb st D R →
    ∃ D' R', g_Mdl_codeLiteral_k_22 (nI (2052 + 768 * ctx)) (nI mC) k1 (nI al) (nI v) (nI j - 1) D = some (nI (256 + ob), D') ∧ g_R_putLiteral_94 (nI (768 * ctx)) (nI mR) (nI ob) k2 (nI al) (nI v) (nI j - 1) R = some R' ∧ zE2 n L lc lp pb st D' R' ∧ zH D D' R R'
  | 0, k1 + 1, k2 + 1, al, v, D, R, _, _, _, _, _, hv, _, h => by
    have e1 : nI 0 - 1 < 0 := by decide
    have hv' : v = 256 + ob := by
      rw [hv, Nat.sub_zero, Nat.pow_zero, Nat.div_one]
    exact ⟨D, R, by rw [g_Mdl_codeLiteral_k_22, if_pos e1, hv'], by rw [g_R_putLiteral_94, if_pos e1], h, zH_rfl⟩
  | j + 1, k1 + 1, k2 + 1, al, v, D, R, hj, h1, h2, hal, hm, hv, h78, h => by
    have hp : 2 ^ (8 - j) = 2 * 2 ^ (8 - (j + 1)) := by rw [show 8 - j = (8 - (j + 1)) + 1 by omega, Nat.pow_succ, Nat.mul_comm]
    have hvk : v < 256 := by
      have h3 : ob / 2 ^ (j + 1) < 2 ^ (8 - (j + 1)) := by
        apply Nat.div_lt_of_lt_mul
        rw [← Nat.pow_add, show j + 1 + (8 - (j + 1)) = 8 by omega]
        exact ho
      have h4 : 2 ^ (8 - j) ≤ 2 ^ 8 := Nat.pow_le_pow_right (by omega) (by omega)
      omega
    have e0 : nI (j + 1) - 1 = nI j := y_sub (a := j + 1) (b := 1) (by omega)
    have e1 : ¬ nI j < 0 := fun q => by have := (y_lt (a := j) (b := 0) (by omega) (by omega)).mp q; omega
    have e3 : nI j + (-1) = nI j - 1 := (Int32.sub_eq_add_neg _ _).symm
    have dC := y_ubit hmC (i := j) (by omega)
    have dR : zo_shr (nI mR) (nI j) &&& 1 = nI (mR / 2 ^ j % 2) := by rw [y_sbit hmR (by omega)]; exact y_ubit hmR (by omega)
    have oC := y_ubit ho (i := j) (by omega)
    have oR : zo_shr (nI ob) (nI j) &&& 1 = nI (ob / 2 ^ j % 2) := by rw [y_sbit ho (by omega)]; exact y_ubit ho (by omega)
    have z4 : ¬ nI 1 = 0 := by decide
    have z0 : nI 0 = 0 := rfl
    obtain ⟨bit, hbit⟩ : ∃ bit, bit = ob / 2 ^ j % 2 := ⟨_, rfl⟩
    rw [← hbit] at oC oR
    have hb1 : bit ≤ 1 := by omega
    obtain ⟨tr, htr, iC, iR⟩ : ∃ tr, tr ≤ 2 ∧ ((if nI al = 0 then some 0 else some (1 + (zo_ushr (nI mC) (nI j) &&& 1))) : Option Int32) = some (nI tr) ∧ ((if nI al = 0 then some (nI (768 * ctx) + nI v) else some (((nI (768 * ctx) + 256) + (256 * (zo_shr (nI mR) (nI j) &&& 1))) + nI v)) : Option Int32) = some (nI (768 * ctx + 256 * tr + v)) := by
      have hal2 : al = 0 ∨ al = 1 := by omega
      rcases hal2 with rfl | rfl
      · refine ⟨0, by omega, rfl, ?_⟩
        rw [if_pos z0, y_add, show 768 * ctx + 256 * 0 + v = 768 * ctx + v by omega]
      · have hmm := hm rfl
        subst hmm
        refine ⟨1 + mC / 2 ^ j % 2, by omega, ?_, ?_⟩
        · rw [if_neg z4, dC, show (1 : Int32) = nI 1 from rfl, y_add]
        · rw [if_neg z4, dR, show (256 : Int32) = nI 256 from rfl, y_mul, y_add, y_add, y_add, show 768 * ctx + 256 + 256 * (mC / 2 ^ j % 2) + v = 768 * ctx + 256 * (1 + mC / 2 ^ j % 2) + v by omega]
    have ix : nI (2052 + 768 * ctx) + nI tr * 256 + nI v = nI (2052 + (768 * ctx + 256 * tr + v)) := by
      rw [show (256 : Int32) = nI 256 from rfl, y_mul, y_add, y_add, show 2052 + 768 * ctx + tr * 256 + v = 2052 + (768 * ctx + 256 * tr + v) by omega]
    have hlim : 2052 + (768 * ctx + 256 * tr + v) < 2052 + 768 * 2 ^ (lc + lp) := by omega
    obtain ⟨al', f1, f2, f3, f4⟩ : ∃ al', al' ≤ 1 ∧ (al' = 1 → mC = mR) ∧ (∀ E, (if nI al = 0 then g_Mdl_codeLiteral_k_22 (nI (2052 + 768 * ctx)) (nI mC) k1 0 (nI (2 * v + bit)) (nI j - 1) E else if ¬ nI bit = (zo_ushr (nI mC) (nI j)) &&& 1 then g_Mdl_codeLiteral_k_22 (nI (2052 + 768 * ctx)) (nI mC) k1 0 (nI (2 * v + bit)) (nI j - 1) E else g_Mdl_codeLiteral_k_22 (nI (2052 + 768 * ctx)) (nI mC) k1 1 (nI (2 * v + bit)) (nI j - 1) E) = g_Mdl_codeLiteral_k_22 (nI (2052 + 768 * ctx)) (nI mC) k1 (nI al') (nI (2 * v + bit)) (nI j - 1) E) ∧ (∀ E, (if nI al = 0 then g_R_putLiteral_94 (nI (768 * ctx)) (nI mR) (nI ob) k2 0 (nI (2 * v + bit)) (nI j - 1) E else if ¬ nI bit = (zo_shr (nI mR) (nI j)) &&& 1 then g_R_putLiteral_94 (nI (768 * ctx)) (nI mR) (nI ob) k2 0 (nI (2 * v + bit)) (nI j - 1) E else g_R_putLiteral_94 (nI (768 * ctx)) (nI mR) (nI ob) k2 1 (nI (2 * v + bit)) (nI j - 1) E) = g_R_putLiteral_94 (nI (768 * ctx)) (nI mR) (nI ob) k2 (nI al') (nI (2 * v + bit)) (nI j - 1) E) := by
      have hal2 : al = 0 ∨ al = 1 := by omega
      rcases hal2 with rfl | rfl
      · exact ⟨0, by omega, fun q => by omega, fun E => by rw [if_pos z0]; rfl, fun E => by rw [if_pos z0]; rfl⟩
      · have hmm := hm rfl
        by_cases q : nI bit = nI (mC / 2 ^ j % 2)
        · refine ⟨1, by omega, fun _ => hmm, fun E => ?_, fun E => ?_⟩
          · rw [if_neg z4, dC, if_neg (fun u => u q)]
            rfl
          · rw [if_neg z4, dR, ← hmm, if_neg (fun u => u q)]
            rfl
        · refine ⟨0, by omega, fun u => by omega, fun E => ?_, fun E => ?_⟩
          · rw [if_neg z4, dC, if_pos q]
            rfl
          · rw [if_neg z4, dR, ← hmm, if_pos q]
            rfl
    obtain ⟨D1, R1, t1, t2, t3, t4⟩ := p_bit2 (k := 2052 + (768 * ctx + 256 * tr + v)) (x := bit) hc h hlim hb1
    rw [zf_lit] at t2
    obtain ⟨D', R', u1, u2, u3, u4⟩ := p_litL hc hctx hmC hmR ho j k1 k2 al' (2 * v + bit) D1 R1 (by omega) (by omega) (by omega) f1 f2 (by
      rw [hv, hp]
      have := dv_bit ob j
      omega) ((t4.c 7 8 (by omega) (by omega) (by omega)).trans h78) t3
    refine ⟨D', R', ?_, ?_, u3, t4.trans u4⟩
    · rw [← u1, ← f3 D1, g_Mdl_codeLiteral_k_22, e0, if_neg e1, iC, o_sb, ix, h78, oC, t1, o_sb]
      show (if nI al = 0 then g_Mdl_codeLiteral_k_22 (nI (2052 + 768 * ctx)) (nI mC) k1 0 (2 * nI v + nI bit) (nI j + -1) D1 else if ¬ nI bit = (zo_ushr (nI mC) (nI j)) &&& 1 then g_Mdl_codeLiteral_k_22 (nI (2052 + 768 * ctx)) (nI mC) k1 0 (2 * nI v + nI bit) (nI j + -1) D1 else g_Mdl_codeLiteral_k_22 (nI (2052 + 768 * ctx)) (nI mC) k1 1 (2 * nI v + nI bit) (nI j + -1) D1) = _
      rw [y_dbl, e3]
    · rw [← u2, ← f4 R1, g_R_putLiteral_94, e0, if_neg e1, iR, o_sb, oR, t2, o_sb, y_dbl, e3]
