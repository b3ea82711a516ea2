def zf (k : Nat) : Nat := if k < 946 then k + 6144 else if k < 1460 then k + 6146 else if k < 2036 then k + 6148 else if k < 2052 then k + 6276 else k - 2052
theorem zf_inj {i j : Nat} (hi : i < 8196) (hj : j < 8196) (h : zf i = zf j) : i = j := by
  unfold zf at h
  repeat' split at h
  all_goals omega
theorem zf_lt {i : Nat} (hi : i < 8196) : zf i < 8328 := by
  unfold zf
  repeat' split
  all_goals omega
abbrev zM (lc lp pb st : Nat) (Z : Nat → Nat) (D R : zx_D) : Prop := Nonempty ((lc + lp ≤ 3) ∧ (pb ≤ 4) ∧ (zg_i D 7 3 = nI lc) ∧ (zg_i R 0 9 = nI lc) ∧ (zg_i D 7 4 = nI lp) ∧ (zg_i R 0 10 = nI lp) ∧ (zg_i D 7 5 = nI pb) ∧ (zg_i R 0 11 = nI pb) ∧ (st < 12) ∧ (zg_i D 7 2 = nI st) ∧ (zg_i R 0 12 = nI st) ∧ (∀ k, k < 2052 + 768 * 2 ^ (lc + lp) → ∃ p, 31 ≤ p ∧ p ≤ 2017 ∧ zg_i D 6 k = nI p ∧ zg_i R 5 (zf k) = nI p ∧ 1024 * 31 ^ (Z k) ≤ (2048 - p) * 32 ^ (Z k)))
theorem zM.hc {lc lp pb st : Nat} {Z : Nat → Nat} {D R : zx_D} (h : zM lc lp pb st Z D R) : lc + lp ≤ 3 := h.elim fun q => q.1
theorem zM.hp {lc lp pb st : Nat} {Z : Nat → Nat} {D R : zx_D} (h : zM lc lp pb st Z D R) : pb ≤ 4 := h.elim fun q => q.2.1
theorem zM.lcC {lc lp pb st : Nat} {Z : Nat → Nat} {D R : zx_D} (h : zM lc lp pb st Z D R) : zg_i D 7 3 = nI lc := h.elim fun q => q.2.2.1
theorem zM.lcR {lc lp pb st : Nat} {Z : Nat → Nat} {D R : zx_D} (h : zM lc lp pb st Z D R) : zg_i R 0 9 = nI lc := h.elim fun q => q.2.2.2.1
theorem zM.lpC {lc lp pb st : Nat} {Z : Nat → Nat} {D R : zx_D} (h : zM lc lp pb st Z D R) : zg_i D 7 4 = nI lp := h.elim fun q => q.2.2.2.2.1
theorem zM.lpR {lc lp pb st : Nat} {Z : Nat → Nat} {D R : zx_D} (h : zM lc lp pb st Z D R) : zg_i R 0 10 = nI lp := h.elim fun q => q.2.2.2.2.2.1
theorem zM.pbC {lc lp pb st : Nat} {Z : Nat → Nat} {D R : zx_D} (h : zM lc lp pb st Z D R) : zg_i D 7 5 = nI pb := h.elim fun q => q.2.2.2.2.2.2.1
theorem zM.pbR {lc lp pb st : Nat} {Z : Nat → Nat} {D R : zx_D} (h : zM lc lp pb st Z D R) : zg_i R 0 11 = nI pb := h.elim fun q => q.2.2.2.2.2.2.2.1
theorem zM.hs {lc lp pb st : Nat} {Z : Nat → Nat} {D R : zx_D} (h : zM lc lp pb st Z D R) : st < 12 := h.elim fun q => q.2.2.2.2.2.2.2.2.1
theorem zM.stC {lc lp pb st : Nat} {Z : Nat → Nat} {D R : zx_D} (h : zM lc lp pb st Z D R) : zg_i D 7 2 = nI st := h.elim fun q => q.2.2.2.2.2.2.2.2.2.1
theorem zM.stR {lc lp pb st : Nat} {Z : Nat → Nat} {D R : zx_D} (h : zM lc lp pb st Z D R) : zg_i R 0 12 = nI st := h.elim fun q => q.2.2.2.2.2.2.2.2.2.2.1
theorem zM.ch {lc lp pb st : Nat} {Z : Nat → Nat} {D R : zx_D} (h : zM lc lp pb st Z D R) : ∀ k, k < 2052 + 768 * 2 ^ (lc + lp) → ∃ p, 31 ≤ p ∧ p ≤ 2017 ∧ zg_i D 6 k = nI p ∧ zg_i R 5 (zf k) = nI p ∧ 1024 * 31 ^ (Z k) ≤ (2048 - p) * 32 ^ (Z k) := h.elim fun q => q.2.2.2.2.2.2.2.2.2.2.2
abbrev zA (n m g b r c x e lc lp pb st : Nat) (Z : Nat → Nat) (D R : zx_D) : Prop := Nonempty ((zV n m g b D R) ∧ (zg_i D 5 2 = 0) ∧ (zg_i R 0 22 = 0) ∧ (2 ^ 17 ≤ r) ∧ (r < 2 ^ 32) ∧ (zg_l D 5 1 = nL r) ∧ (zg_l R 0 17 = nL r) ∧ (c < 2 ^ 63) ∧ (zg_l D 5 6 = nL c) ∧ (zg_l R 0 18 = nL c) ∧ (zg_i D 5 7 = if c < r then 0 else 1) ∧ (zg_i D 5 4 = nI x) ∧ (zg_i R 0 19 = nI x) ∧ (zg_i D 5 5 = nI e) ∧ (zg_i R 0 20 = nI e) ∧ (x ≤ e) ∧ (e ≤ m) ∧ (zM lc lp pb st Z D R))
theorem zA.v {n m g b r c x e lc lp pb st : Nat} {Z : Nat → Nat} {D R : zx_D} (h : zA n m g b r c x e lc lp pb st Z D R) : zV n m g b D R := h.elim fun q => q.1
theorem zA.bC {n m g b r c x e lc lp pb st : Nat} {Z : Nat → Nat} {D R : zx_D} (h : zA n m g b r c x e lc lp pb st Z D R) : zg_i D 5 2 = 0 := h.elim fun q => q.2.1
theorem zA.bR {n m g b r c x e lc lp pb st : Nat} {Z : Nat → Nat} {D R : zx_D} (h : zA n m g b r c x e lc lp pb st Z D R) : zg_i R 0 22 = 0 := h.elim fun q => q.2.2.1
theorem zA.hr1 {n m g b r c x e lc lp pb st : Nat} {Z : Nat → Nat} {D R : zx_D} (h : zA n m g b r c x e lc lp pb st Z D R) : 2 ^ 17 ≤ r := h.elim fun q => q.2.2.2.1
theorem zA.hr2 {n m g b r c x e lc lp pb st : Nat} {Z : Nat → Nat} {D R : zx_D} (h : zA n m g b r c x e lc lp pb st Z D R) : r < 2 ^ 32 := h.elim fun q => q.2.2.2.2.1
theorem zA.rC {n m g b r c x e lc lp pb st : Nat} {Z : Nat → Nat} {D R : zx_D} (h : zA n m g b r c x e lc lp pb st Z D R) : zg_l D 5 1 = nL r := h.elim fun q => q.2.2.2.2.2.1
theorem zA.rR {n m g b r c x e lc lp pb st : Nat} {Z : Nat → Nat} {D R : zx_D} (h : zA n m g b r c x e lc lp pb st Z D R) : zg_l R 0 17 = nL r := h.elim fun q => q.2.2.2.2.2.2.1
theorem zA.hc {n m g b r c x e lc lp pb st : Nat} {Z : Nat → Nat} {D R : zx_D} (h : zA n m g b r c x e lc lp pb st Z D R) : c < 2 ^ 63 := h.elim fun q => q.2.2.2.2.2.2.2.1
theorem zA.cC {n m g b r c x e lc lp pb st : Nat} {Z : Nat → Nat} {D R : zx_D} (h : zA n m g b r c x e lc lp pb st Z D R) : zg_l D 5 6 = nL c := h.elim fun q => q.2.2.2.2.2.2.2.2.1
theorem zA.cR {n m g b r c x e lc lp pb st : Nat} {Z : Nat → Nat} {D R : zx_D} (h : zA n m g b r c x e lc lp pb st Z D R) : zg_l R 0 18 = nL c := h.elim fun q => q.2.2.2.2.2.2.2.2.2.1
theorem zA.be {n m g b r c x e lc lp pb st : Nat} {Z : Nat → Nat} {D R : zx_D} (h : zA n m g b r c x e lc lp pb st Z D R) : zg_i D 5 7 = if c < r then 0 else 1 := h.elim fun q => q.2.2.2.2.2.2.2.2.2.2.1
theorem zA.nC {n m g b r c x e lc lp pb st : Nat} {Z : Nat → Nat} {D R : zx_D} (h : zA n m g b r c x e lc lp pb st Z D R) : zg_i D 5 4 = nI x := h.elim fun q => q.2.2.2.2.2.2.2.2.2.2.2.1
theorem zA.nR {n m g b r c x e lc lp pb st : Nat} {Z : Nat → Nat} {D R : zx_D} (h : zA n m g b r c x e lc lp pb st Z D R) : zg_i R 0 19 = nI x := h.elim fun q => q.2.2.2.2.2.2.2.2.2.2.2.2.1
theorem zA.eC {n m g b r c x e lc lp pb st : Nat} {Z : Nat → Nat} {D R : zx_D} (h : zA n m g b r c x e lc lp pb st Z D R) : zg_i D 5 5 = nI e := h.elim fun q => q.2.2.2.2.2.2.2.2.2.2.2.2.2.1
theorem zA.eR {n m g b r c x e lc lp pb st : Nat} {Z : Nat → Nat} {D R : zx_D} (h : zA n m g b r c x e lc lp pb st Z D R) : zg_i R 0 20 = nI e := h.elim fun q => q.2.2.2.2.2.2.2.2.2.2.2.2.2.2.1
theorem zA.xe {n m g b r c x e lc lp pb st : Nat} {Z : Nat → Nat} {D R : zx_D} (h : zA n m g b r c x e lc lp pb st Z D R) : x ≤ e := h.elim fun q => q.2.2.2.2.2.2.2.2.2.2.2.2.2.2.2.1
theorem zA.em {n m g b r c x e lc lp pb st : Nat} {Z : Nat → Nat} {D R : zx_D} (h : zA n m g b r c x e lc lp pb st Z D R) : e ≤ m := h.elim fun q => q.2.2.2.2.2.2.2.2.2.2.2.2.2.2.2.2.1
theorem zA.md {n m g b r c x e lc lp pb st : Nat} {Z : Nat → Nat} {D R : zx_D} (h : zA n m g b r c x e lc lp pb st Z D R) : zM lc lp pb st Z D R := h.elim fun q => q.2.2.2.2.2.2.2.2.2.2.2.2.2.2.2.2.2
abbrev zX (n m g b : Nat) (D R : zx_D) : Prop := Nonempty ((zV n m g b D R) ∧ (¬ zg_i D 5 2 = 0) ∧ (¬ zg_i R 0 22 = 0))
theorem zX.v {n m g b : Nat} {D R : zx_D} (h : zX n m g b D R) : zV n m g b D R := h.elim fun q => q.1
theorem zX.bC {n m g b : Nat} {D R : zx_D} (h : zX n m g b D R) : ¬ zg_i D 5 2 = 0 := h.elim fun q => q.2.1
theorem zX.bR {n m g b : Nat} {D R : zx_D} (h : zX n m g b D R) : ¬ zg_i R 0 22 = 0 := h.elim fun q => q.2.2
theorem x_shC {D : zx_D} (h : ¬ zg_i D 5 2 = 0) : g_Src_shift D = some D := by rw [g_Src_shift, if_pos h]
theorem x_shR {R : zx_D} (h : ¬ zg_i R 0 22 = 0) : g_R_shift R = some R := by rw [g_R_shift, if_pos h]
theorem x_bitC {D : zx_D} (k w : Int32) (h : ¬ zg_i D 5 2 = 0) : g_Src_codeBit k w D = some (0, D) := by simp only [Option.bind_some, ↓reduceIte, not_true_eq_false, not_false_eq_true, y_1, g_Src_codeBit, x_shC h, h]
theorem x_bitR {R : zx_D} (k : Int32) (h : ¬ zg_i R 0 22 = 0) : g_R_bit k R = some (0, R) := by simp only [Option.bind_some, ↓reduceIte, not_true_eq_false, not_false_eq_true, y_1, g_R_bit, x_shR h, h]
theorem x_evC {D : zx_D} (w : Int32) (h : ¬ zg_i D 5 2 = 0) : g_Src_codeEvenBit w D = some (0, D) := by simp only [Option.bind_some, ↓reduceIte, not_true_eq_false, not_false_eq_true, y_1, g_Src_codeEvenBit, x_shC h, h]
theorem x_evR {R : zx_D} (h : ¬ zg_i R 0 22 = 0) : g_R_even R = some (0, R) := by simp only [Option.bind_some, ↓reduceIte, not_true_eq_false, not_false_eq_true, y_1, g_R_even, x_shR h, h]
theorem v_sh8 {r : Nat} (h : r < 2 ^ 55) : zo_lshl (nL r) 8 = nL (256 * r) := by
  apply Int64.toBitVec_inj.mp
  have e1 : (zo_lshl (nL r) 8).toBitVec = BitVec.ofNat 64 r <<< 8 := rfl
  have e2 : (nL (256 * r)).toBitVec = BitVec.ofNat 64 (256 * r) := rfl
  rw [e1, e2]
  apply BitVec.eq_of_toNat_eq
  rw [BitVec.toNat_shiftLeft, BitVec.toNat_ofNat, BitVec.toNat_ofNat, Nat.shiftLeft_eq, Nat.mod_eq_of_lt (show r < 2 ^ 64 by omega)]
  congr 1
  omega
theorem v_shr {r s : Nat} {u : Int64} (h : r < 2 ^ 63) (e : u.toBitVec = BitVec.ofNat 64 r >>> s) : u = nL (r / 2 ^ s) := by
  apply Int64.toBitVec_inj.mp
  have e2 : (nL (r / 2 ^ s)).toBitVec = BitVec.ofNat 64 (r / 2 ^ s) := rfl
  rw [e, e2]
  apply BitVec.eq_of_toNat_eq
  have h2 : r / 2 ^ s ≤ r := Nat.div_le_self _ _
  rw [BitVec.toNat_ushiftRight, BitVec.toNat_ofNat, BitVec.toNat_ofNat, Nat.shiftRight_eq_div_pow, Nat.mod_eq_of_lt (by omega), Nat.mod_eq_of_lt (by omega)]
theorem v_sh11 {r : Nat} (h : r < 2 ^ 63) : zo_lushr (nL r) 11 = nL (r / 2048) := v_shr (s := 11) h rfl
theorem v_sh1 {r : Nat} (h : r < 2 ^ 63) : zo_lushr (nL r) 1 = nL (r / 2) := v_shr (s := 1) h rfl
theorem v_div {a b : Nat} (ha : a < 2 ^ 63) (hb : b < 2 ^ 63) : nL a / nL b = nL (a / b) := by
  apply Int64.toInt_inj.mp
  have h1 : a / b ≤ a := Nat.div_le_self a b
  rw [Int64.toInt_div, v_toInt ha, v_toInt hb, v_toInt (by omega)]
  rw [show ((a : Int).tdiv (b : Int)) = ((a / b : Nat) : Int) from (Int.ofNat_tdiv a b).symm]
  generalize a / b = q at h1 ⊢
  exact Int.bmod_eq_of_le (by omega) (by omega)
theorem y_sh5 {p : Nat} (h : p < 2 ^ 31) : zo_shr (nI p) 5 = nI (p / 32) := by
  apply Int32.toBitVec_inj.mp
  have e1 : (zo_shr (nI p) 5).toBitVec = (BitVec.ofNat 32 p).sshiftRight 5 := rfl
  have hm : (BitVec.ofNat 32 p).msb = false := by
    rw [BitVec.msb_eq_decide, BitVec.toNat_ofNat, Nat.mod_eq_of_lt (by omega)]
    exact decide_eq_false (by omega)
  rw [e1, BitVec.sshiftRight_eq_of_msb_false hm, y_ofNat_bv]
  apply BitVec.eq_of_toNat_eq
  rw [BitVec.toNat_ushiftRight, BitVec.toNat_ofNat, BitVec.toNat_ofNat, Nat.shiftRight_eq_div_pow, Nat.mod_eq_of_lt (by omega)]
  have : p / 2 ^ 5 ≤ p := Nat.div_le_self _ _
  rw [Nat.mod_eq_of_lt (by omega)]
theorem d_shift {n m g b r c x e lc lp pb st : Nat} {Z : Nat → Nat} {D R : zx_D} (h : zA n m g b r c x e lc lp pb st Z D R) (hov : c < r ∨ c < 2 ^ 54 ∨ 2 ^ 24 ≤ r) :
    (∃ r' c' x' D' R', g_Src_shift D = some D' ∧ g_R_shift R = some R' ∧ zA n m g b r' c' x' e lc lp pb st Z D' R' ∧ 2 ^ 24 ≤ r' ∧ (c < r → c' < r') ∧ ((r' = r ∧ c' = c) ∨ (r < 2 ^ 24 ∧ r' = 256 * r ∧ ∃ y, y < 256 ∧ c' = 256 * c + y))) ∨
    (∃ D' R', g_Src_shift D = some D' ∧ g_R_shift R = some R' ∧ zX n m g b D' R') := by
  have hm := h.v.hm
  have hr1 := h.hr1
  have hr2 := h.hr2
  have hc := h.hc
  have hv := h.v
  by_cases hr : r < 2 ^ 24
  · have l1 : nL r < 16777216 := (v_lt (b := 16777216) (by omega) (by omega)).mpr (by omega)
    by_cases hx : x < e
    · left
      have hem := h.em
      obtain ⟨b1, y, hy, b2⟩ := h.v.kB x (by omega)
      have l2 : nI x < nI e := (y_lt (by omega) (by omega)).mpr hx
      have z1 : zk_in (nI x) 640 = true := y_in (by omega) (by omega)
      have z2 : zn (nI x) = x := y_zn (by omega)
      have hc54 : c < 2 ^ 54 := by omega
      have e1 : zo_lshl (nL r) 8 = nL (256 * r) := v_sh8 (by omega)
      have e2 : zo_lshl (nL c) 8 + nL y = nL (256 * c + y) := by rw [v_sh8 (by omega), v_add]
      have e3 : nL r * 256 = nL (256 * r) := by rw [show (256 : Int64) = nL 256 from rfl, v_mul, Nat.mul_comm]
      have e4 : nL c * 256 + nL y = nL (256 * c + y) := by rw [show (256 : Int64) = nL 256 from rfl, v_mul, v_add, Nat.mul_comm]
      have e5 : (nI y).toInt64 = nL y := v_of (by omega)
      have hb : (zg_i D 5 7 = if 256 * c + y < 256 * r then 0 else 1) := by
        rw [h.be]
        by_cases q : c < r
        · rw [if_pos q, if_pos (by omega)]
        · rw [if_neg q, if_neg (by omega)]
      have hbC := h.bC
      have hbR := h.bR
      have hA : zA n m g b (256 * r) (256 * c + y) (x + 1) e lc lp pb st Z (zp_i (zp_l (zp_l D 5 1 (nL (256 * r))) 5 6 (nL (256 * c + y))) 5 4 (nI (x + 1))) (zp_i (zp_l (zp_l R 0 17 (nL (256 * r))) 0 18 (nL (256 * c + y))) 0 19 (nI (x + 1))) := ⟨⟨hv.hn, hv.hm, hv.pC, hv.pR, hv.pB, hv.kC, hv.kR, hv.kB, hv.sz, hv.fa, hv.wh, hv.wa, hv.lo, hv.kr, hv.kc, hv.c0, hv.cs, hv.en, hv.hg, hv.gC, hv.gR, hv.gB, hv.bR, hv.bC, hv.bS⟩, h.bC, h.bR, (by omega), (by omega), rfl, rfl, (by omega), rfl, rfl, hb, rfl, rfl, h.eC, h.eR, (by omega), h.em, ⟨h.md.hc, h.md.hp, h.md.lcC, h.md.lcR, h.md.lpC, h.md.lpR, h.md.pbC, h.md.pbR, h.md.hs, h.md.stC, h.md.stR, h.md.ch⟩⟩
      refine ⟨256 * r, 256 * c + y, x + 1, _, _, ?_, ?_, hA, by omega, by omega, Or.inr ⟨hr, rfl, y, hy, rfl⟩⟩
      · simp only [Option.bind_some, ↓reduceIte, not_true_eq_false, not_false_eq_true, y_1, g_Src_shift, hbC, h.rC, l1, h.nC, h.eC, l2, z1, z2, b1, b2, h.cC, e1, e5, e2]
      · simp only [Option.bind_some, ↓reduceIte, not_true_eq_false, not_false_eq_true, y_1, g_R_shift, hbR, h.rR, l1, h.nR, h.eR, l2, z1, z2, b2, h.cR, e3, e5, e4]
    · right
      have l2 : ¬ nI x < nI e := fun q => by have := (y_lt (by have := h.xe; have := h.em; omega) (by have := h.em; omega)).mp q; omega
      have hbC := h.bC
      have hbR := h.bR
      have hX : zX n m g b (zp_i D 5 2 1) (zp_i R 0 22 1) := ⟨⟨hv.hn, hv.hm, hv.pC, hv.pR, hv.pB, hv.kC, hv.kR, hv.kB, hv.sz, hv.fa, hv.wh, hv.wa, hv.lo, hv.kr, hv.kc, hv.c0, hv.cs, hv.en, hv.hg, hv.gC, hv.gR, hv.gB, hv.bR, hv.bC, hv.bS⟩, (by decide : ¬ (1 : Int32) = 0), (by decide : ¬ (1 : Int32) = 0)⟩
      refine ⟨_, _, ?_, ?_, hX⟩
      · simp only [Option.bind_some, ↓reduceIte, not_true_eq_false, not_false_eq_true, y_1, g_Src_shift, hbC, h.rC, l1, h.nC, h.eC, l2]
      · simp only [Option.bind_some, ↓reduceIte, not_true_eq_false, not_false_eq_true, y_1, g_R_shift, hbR, h.rR, l1, h.nR, h.eR, l2]
  · left
    have l1 : ¬ nL r < 16777216 := fun q => by have := (v_lt (b := 16777216) (by omega) (by omega)).mp q; omega
    have hbC := h.bC
    have hbR := h.bR
    exact ⟨r, c, x, D, R, by simp only [Option.bind_some, ↓reduceIte, not_true_eq_false, not_false_eq_true, y_1, g_Src_shift, hbC, h.rC, l1], by simp only [Option.bind_some, ↓reduceIte, not_true_eq_false, not_false_eq_true, y_1, g_R_shift, hbR, h.rR, l1], h, by omega, fun q => q, Or.inl ⟨rfl, rfl⟩⟩
abbrev zQ (D D' R R' : zx_D) : Prop := Nonempty ((∀ p k, p ≠ 5 → p ≠ 6 → zg_i D' p k = zg_i D p k) ∧ (∀ p k, p ≠ 5 → zg_l D' p k = zg_l D p k) ∧ (∀ k, k ≠ 19 → k ≠ 22 → zg_i R' 0 k = zg_i R 0 k) ∧ (∀ k, k ≠ 17 → k ≠ 18 → k ≠ 39 → k ≠ 40 → zg_l R' 0 k = zg_l R 0 k) ∧ (∀ k, zg_i R' 3 k = zg_i R 3 k) ∧ (∀ k, k ≠ 0 → zg_i R' 9 k = zg_i R 9 k))
theorem zQ.c {D D' R R' : zx_D} (h : zQ D D' R R') : ∀ p k, p ≠ 5 → p ≠ 6 → zg_i D' p k = zg_i D p k := h.elim fun q => q.1
theorem zQ.cl {D D' R R' : zx_D} (h : zQ D D' R R') : ∀ p k, p ≠ 5 → zg_l D' p k = zg_l D p k := h.elim fun q => q.2.1
theorem zQ.r {D D' R R' : zx_D} (h : zQ D D' R R') : ∀ k, k ≠ 19 → k ≠ 22 → zg_i R' 0 k = zg_i R 0 k := h.elim fun q => q.2.2.1
theorem zQ.rl {D D' R R' : zx_D} (h : zQ D D' R R') : ∀ k, k ≠ 17 → k ≠ 18 → k ≠ 39 → k ≠ 40 → zg_l R' 0 k = zg_l R 0 k := h.elim fun q => q.2.2.2.1
theorem zQ.r3 {D D' R R' : zx_D} (h : zQ D D' R R') : ∀ k, zg_i R' 3 k = zg_i R 3 k := h.elim fun q => q.2.2.2.2.1
theorem zQ.r9 {D D' R R' : zx_D} (h : zQ D D' R R') : ∀ k, k ≠ 0 → zg_i R' 9 k = zg_i R 9 k := h.elim fun q => q.2.2.2.2.2
theorem zQ_rfl {D R : zx_D} : zQ D D R R := ⟨fun _ _ _ _ => Eq.refl _, fun _ _ _ => Eq.refl _, fun _ _ _ => Eq.refl _, fun _ _ _ _ _ => Eq.refl _, fun _ => Eq.refl _, fun _ _ => Eq.refl _⟩
theorem zQ.trans {D D' D'' R R' R'' : zx_D} (h1 : zQ D D' R R') (h2 : zQ D' D'' R' R'') : zQ D D'' R R'' :=
  ⟨fun p k a1 a2 => (h2.c p k a1 a2).trans (h1.c p k a1 a2), fun p k a1 => (h2.cl p k a1).trans (h1.cl p k a1), fun k a1 a2 => (h2.r k a1 a2).trans (h1.r k a1 a2), fun k a1 a2 a3 a4 => (h2.rl k a1 a2 a3 a4).trans (h1.rl k a1 a2 a3 a4), fun k => (h2.r3 k).trans (h1.r3 k), fun k a1 => (h2.r9 k a1).trans (h1.r9 k a1)⟩
theorem zQ_shift {D R D' R' : zx_D} (h1 : g_Src_shift D = some D') (h2 : g_R_shift R = some R') : zQ D D' R R' := by
  rw [g_Src_shift] at h1
  rw [g_R_shift] at h2
  have c1 : (∀ p k, p ≠ 5 → p ≠ 6 → zg_i D' p k = zg_i D p k) ∧ (∀ p k, p ≠ 5 → zg_l D' p k = zg_l D p k) := by
    repeat' split at h1
    all_goals first
      | (cases h1; constructor <;> intros <;> simp [y_gi, y_gl, y_il, y_li, *])
      | cases h1
  have c2 : (∀ k, k ≠ 19 → k ≠ 22 → zg_i R' 0 k = zg_i R 0 k) ∧ (∀ k, k ≠ 17 → k ≠ 18 → k ≠ 39 → k ≠ 40 → zg_l R' 0 k = zg_l R 0 k) ∧ (∀ k, zg_i R' 3 k = zg_i R 3 k) ∧ (∀ k, k ≠ 0 → zg_i R' 9 k = zg_i R 9 k) := by
    repeat' split at h2
    all_goals first
      | (cases h2; refine ⟨?_, ?_, ?_, ?_⟩ <;> intros <;> simp [y_gi, y_gl, y_il, y_li, *])
      | cases h2
  exact ⟨c1.1, c1.2, c2.1, c2.2.1, c2.2.2.1, c2.2.2.2⟩
theorem d_keep {n m g b r c x e lc lp pb st : Nat} {Z : Nat → Nat} {D R : zx_D} (h : zA n m g b r c x e lc lp pb st Z D R) :
    ∃ D' R', g_Src_keep D = some D' ∧ g_R_told R = some R' ∧ zA n m g b r c x e lc lp pb st Z D' R' ∧ zQ D D' R R' := by
  have hv := h.v
  have hw : zg_i D 5 9 = zg_i R 0 38 := by rw [hv.wa, hv.lo]
  have h0 : zg_i R 9 (zn 0) = zg_i D 5 8 := hv.c0.symm
  by_cases hk : zg_i D 5 8 + 1 = zg_i R 0 38
  · have hA : zA n m g b r c x e lc lp pb st Z (zp_l (zp_l (zp_i D 5 8 (zg_i D 5 8 + 1)) 5 10 (zg_l D 5 1)) 5 11 (zg_l D 5 6)) (zp_l (zp_l (zp_i R 9 (zn 0) (zg_i D 5 8 + 1)) 0 39 (zg_l R 0 17)) 0 40 (zg_l R 0 18)) := ⟨⟨hv.hn, hv.hm, hv.pC, hv.pR, hv.pB, hv.kC, hv.kR, hv.kB, hv.sz, hv.fa, hv.wh, hv.wa, hv.lo, (h.rC.trans h.rR.symm), (h.cC.trans h.cR.symm), rfl, (fun i h1 h2 => (hv.cs i h1 h2).trans (by show zg_i R 9 i = zg_i (zp_i R 9 (zn 0) (zg_i D 5 8 + 1)) 9 i; rw [y_gi, if_neg (fun q => by have e : zn 0 = 0 := rfl; omega)])), hv.en, hv.hg, hv.gC, hv.gR, hv.gB, hv.bR, hv.bC, hv.bS⟩, h.bC, h.bR, h.hr1, h.hr2, h.rC, h.rR, h.hc, h.cC, h.cR, h.be, h.nC, h.nR, h.eC, h.eR, h.xe, h.em, ⟨h.md.hc, h.md.hp, h.md.lcC, h.md.lcR, h.md.lpC, h.md.lpR, h.md.pbC, h.md.pbR, h.md.hs, h.md.stC, h.md.stR, h.md.ch⟩⟩
    refine ⟨_, _, by simp only [Option.bind_some, ↓reduceIte, not_true_eq_false, not_false_eq_true, y_1, g_Src_keep, hw, hk], by simp only [Option.bind_some, ↓reduceIte, not_true_eq_false, not_false_eq_true, y_1, g_R_told, h0, hk], hA, ?_⟩
    refine ⟨fun p k a1 a2 => ?_, fun p k a1 => ?_, fun k a1 a2 => ?_, fun k a1 a2 a3 a4 => ?_, fun k => ?_, fun k a1 => ?_⟩
    · simp [y_gi, y_il, a1]
    · simp [y_gl, y_li, a1]
    · simp [y_gi, y_il]
    · simp [y_gl, y_li, a3, a4]
    · simp [y_gi, y_il]
    · simp [y_gi, y_il, show ¬ k = zn 0 from a1]
  · have hA : zA n m g b r c x e lc lp pb st Z (zp_i D 5 8 (zg_i D 5 8 + 1)) (zp_i R 9 (zn 0) (zg_i D 5 8 + 1)) := ⟨⟨hv.hn, hv.hm, hv.pC, hv.pR, hv.pB, hv.kC, hv.kR, hv.kB, hv.sz, hv.fa, hv.wh, hv.wa, hv.lo, hv.kr, hv.kc, rfl, (fun i h1 h2 => (hv.cs i h1 h2).trans (by show zg_i R 9 i = zg_i (zp_i R 9 (zn 0) (zg_i D 5 8 + 1)) 9 i; rw [y_gi, if_neg (fun q => by have e : zn 0 = 0 := rfl; omega)])), hv.en, hv.hg, hv.gC, hv.gR, hv.gB, hv.bR, hv.bC, hv.bS⟩, h.bC, h.bR, h.hr1, h.hr2, h.rC, h.rR, h.hc, h.cC, h.cR, h.be, h.nC, h.nR, h.eC, h.eR, h.xe, h.em, ⟨h.md.hc, h.md.hp, h.md.lcC, h.md.lcR, h.md.lpC, h.md.lpR, h.md.pbC, h.md.pbR, h.md.hs, h.md.stC, h.md.stR, h.md.ch⟩⟩
    refine ⟨_, _, by simp only [Option.bind_some, ↓reduceIte, not_true_eq_false, not_false_eq_true, y_1, g_Src_keep, hw, hk], by simp only [Option.bind_some, ↓reduceIte, not_true_eq_false, not_false_eq_true, y_1, g_R_told, h0, hk], hA, ?_⟩
    refine ⟨fun p k a1 a2 => ?_, fun p k a1 => ?_, fun k a1 a2 => ?_, fun k a1 a2 a3 a4 => ?_, fun k => ?_, fun k a1 => ?_⟩
    · simp [y_gi, a1]
    · simp [y_li]
    · simp [y_gi]
    · simp [y_li]
    · simp [y_gi]
    · simp [y_gi, show ¬ k = zn 0 from a1]
theorem pw_le {lc lp : Nat} (h : lc + lp ≤ 3) : 2052 + 768 * 2 ^ (lc + lp) ≤ 8196 := by
  have : 2 ^ (lc + lp) ≤ 2 ^ 3 := Nat.pow_le_pow_right (by omega) h
  omega
theorem zM_put {lc lp pb st k p' : Nat} {Z : Nat → Nat} {D R : zx_D} (h : zM lc lp pb st Z D R) (hk : k < 2052 + 768 * 2 ^ (lc + lp)) (z' : Nat) (h1 : 31 ≤ p') (h2 : p' ≤ 2017) (h3 : 1024 * 31 ^ z' ≤ (2048 - p') * 32 ^ z') : zM lc lp pb st (va_up Z k z') (zp_i D 6 k (nI p')) (zp_i R 5 (zf k) (nI p')) := by
  have hl := pw_le h.hc
  refine ⟨h.hc, h.hp, h.lcC, h.lcR, h.lpC, h.lpR, h.pbC, h.pbR, h.hs, h.stC, h.stR, fun j hj => ?_⟩
  rw [y_gi, y_gi]
  unfold va_up
  by_cases hjk : j = k
  · subst hjk
    rw [if_pos ⟨rfl, rfl⟩, if_pos ⟨rfl, rfl⟩, if_pos rfl]
    exact ⟨p', h1, h2, rfl, rfl, h3⟩
  · rw [if_neg (fun q => hjk q.2), if_neg (fun q => hjk (zf_inj (by omega) (by omega) q.2)), if_neg hjk]
    exact h.ch j hj
theorem lrn0 {p z : Nat} (h1 : 31 ≤ p) (h2 : p ≤ 2017) (h3 : 1024 * 31 ^ z ≤ (2048 - p) * 32 ^ z) : 31 ≤ p + (2048 - p) / 32 ∧ p + (2048 - p) / 32 ≤ 2017 ∧ 1024 * 31 ^ (z + 1) ≤ (2048 - (p + (2048 - p) / 32)) * 32 ^ (z + 1) := by
  refine ⟨by omega, by omega, ?_⟩
  have e : 31 * (2048 - p) ≤ 32 * (2048 - (p + (2048 - p) / 32)) := by omega
  calc 1024 * 31 ^ (z + 1) = 31 * (1024 * 31 ^ z) := by rw [Nat.pow_succ]; ac_rfl
    _ ≤ 31 * ((2048 - p) * 32 ^ z) := Nat.mul_le_mul_left _ h3
    _ = (31 * (2048 - p)) * 32 ^ z := by rw [Nat.mul_assoc]
    _ ≤ (32 * (2048 - (p + (2048 - p) / 32))) * 32 ^ z := Nat.mul_le_mul_right _ e
    _ = (2048 - (p + (2048 - p) / 32)) * 32 ^ (z + 1) := by rw [Nat.pow_succ]; ac_rfl
theorem lrn1 {p z : Nat} (h1 : 31 ≤ p) (h2 : p ≤ 2017) (h3 : 1024 * 31 ^ z ≤ (2048 - p) * 32 ^ z) : 31 ≤ p - p / 32 ∧ p - p / 32 ≤ 2017 ∧ 1024 * 31 ^ z ≤ (2048 - (p - p / 32)) * 32 ^ z :=
  ⟨by omega, by omega, Nat.le_trans h3 (Nat.mul_le_mul_right _ (by omega))⟩
theorem c_learn0 {k p : Nat} {D : zx_D} (hk : k < 8196) (hp : p ≤ 2017) (h : zg_i D 6 k = nI p) : g_Lin_learn_5 (nI k) 0 D = some (zp_i D 6 k (nI (p + (2048 - p) / 32))) := by
  have z1 : zk_in (nI k) 8196 = true := y_in hk (by omega)
  have z2 : zn (nI k) = k := y_zn (by omega)
  have e : nI p + zo_shr (2048 - nI p) 5 = nI (p + (2048 - p) / 32) := by
    rw [show (2048 : Int32) - nI p = nI (2048 - p) from y_sub (a := 2048) (by omega), y_sh5 (by omega), y_add]
  simp only [Option.bind_some, ↓reduceIte, not_true_eq_false, not_false_eq_true, y_1, g_Lin_learn_5, z1, z2, h, e]
theorem c_learn1 {k p : Nat} {D : zx_D} (hk : k < 8196) (hp : p ≤ 2017) (h : zg_i D 6 k = nI p) : g_Lin_learn_5 (nI k) 1 D = some (zp_i D 6 k (nI (p - p / 32))) := by
  have z1 : zk_in (nI k) 8196 = true := y_in hk (by omega)
  have z2 : zn (nI k) = k := y_zn (by omega)
  have z4 : ¬ (1 : Int32) = 0 := by decide
  have e : nI p - zo_shr (nI p) 5 = nI (p - p / 32) := by
    rw [y_sh5 (by omega), y_sub (Nat.div_le_self _ _)]
  simp only [Option.bind_some, ↓reduceIte, not_true_eq_false, not_false_eq_true, y_1, g_Lin_learn_5, z1, z2, z4, h, e]
theorem r_learn0 {k p : Nat} {R : zx_D} (hk : k < 8328) (hp : p ≤ 2017) (h : zg_i R 5 k = nI p) : g_R_learn (nI k) 0 R = some (zp_i R 5 k (nI (p + (2048 - p) / 32))) := by
  have z1 : zk_in (nI k) 8328 = true := y_in hk (by omega)
  have z2 : zn (nI k) = k := y_zn (by omega)
  have e : nI p + (2048 - nI p) / 32 = nI (p + (2048 - p) / 32) := by
    rw [show (2048 : Int32) - nI p = nI (2048 - p) from y_sub (a := 2048) (by omega), show (32 : Int32) = nI 32 from rfl, y_div (by omega) (by omega), y_add]
  simp only [Option.bind_some, ↓reduceIte, not_true_eq_false, not_false_eq_true, y_1, g_R_learn, z1, z2, h, e]
theorem r_learn1 {k p : Nat} {R : zx_D} (hk : k < 8328) (hp : p ≤ 2017) (h : zg_i R 5 k = nI p) : g_R_learn (nI k) 1 R = some (zp_i R 5 k (nI (p - p / 32))) := by
  have z1 : zk_in (nI k) 8328 = true := y_in hk (by omega)
  have z2 : zn (nI k) = k := y_zn (by omega)
  have z4 : ¬ (1 : Int32) = 0 := by decide
  have e : nI p - nI p / 32 = nI (p - p / 32) := by
    rw [show (32 : Int32) = nI 32 from rfl, y_div (by omega) (by omega), y_sub (Nat.div_le_self _ _)]
  simp only [Option.bind_some, ↓reduceIte, not_true_eq_false, not_false_eq_true, y_1, g_R_learn, z1, z2, z4, h, e]
theorem d_bit {n m g b r c x e lc lp pb st : Nat} {Z : Nat → Nat} {D R : zx_D} (h : zA n m g b r c x e lc lp pb st Z D R) (hov : c < r ∨ c < 2 ^ 54 ∨ 2 ^ 24 ≤ r) {k : Nat} (hk : k < 2052 + 768 * 2 ^ (lc + lp)) (w : Int32) :
    (∃ r' c' x' Z' bit D' R', g_Src_codeBit (nI k) w D = some (nI bit, D') ∧ g_R_bit (nI (zf k)) R = some (nI bit, R') ∧ zA n m g b r' c' x' e lc lp pb st Z' D' R' ∧ zQ D D' R R' ∧ ((bit = 0 ∧ Z' = va_up Z k (Z k + 1)) ∨ (bit = 1 ∧ Z' = Z)) ∧ (c < r → c' < r') ∧ (r ≤ c → bit = 1 ∧ r' ≤ c' ∧ ∃ s, s ≤ 1 ∧ (2 ^ 24 ≤ r → s = 0) ∧ r * 256 ^ s * 31 ^ (Z k) ≤ 2 * r' * 32 ^ (Z k) ∧ c' - r' ≤ 256 ^ s * (c - r) + 255 * s)) ∨
    (∃ D' R', g_Src_codeBit (nI k) w D = some (0, D') ∧ g_R_bit (nI (zf k)) R = some (0, R') ∧ zX n m g b D' R' ∧ zQ D D' R R') := by
  rcases d_shift h hov with ⟨r1, c1, x1, D1, R1, s1, s2, h1, hr24, hlt, hsh⟩ | ⟨D1, R1, s1, s2, hX⟩
  · left
    have q0 := zQ_shift s1 s2
    have hl := pw_le h1.md.hc
    have hk8 : k < 8196 := by omega
    have hkf : zf k < 8328 := zf_lt hk8
    obtain ⟨p, hp1, hp2, pC, pR, hz⟩ := h1.md.ch k hk
    have z1 : zk_in (nI k) 8196 = true := y_in hk8 (by omega)
    have z2 : zn (nI k) = k := y_zn (by omega)
    have z1' : zk_in (nI (zf k)) 8328 = true := y_in hkf (by omega)
    have z2' : zn (nI (zf k)) = zf k := y_zn (by omega)
    have z4 : ¬ (1 : Int32) = 0 := by decide
    have hr2 := h1.hr2
    have hc63 := h1.hc
    obtain ⟨q, hq⟩ : ∃ q, q = r1 / 2048 := ⟨_, rfl⟩
    obtain ⟨bd, hbd⟩ : ∃ bd, bd = q * p := ⟨_, rfl⟩
    have b1 : q * 31 ≤ bd := by rw [hbd]; exact Nat.mul_le_mul_left _ hp1
    have b2 : bd ≤ q * 2017 := by rw [hbd]; exact Nat.mul_le_mul_left _ hp2
    have b3 : q * 2048 ≤ r1 := by omega
    have b4 : 8192 ≤ q := by omega
    have ebC : zo_lushr (nL r1) 11 * (nI p).toInt64 = nL bd := by rw [v_sh11 (by omega), v_of (by omega), v_mul, ← hq, ← hbd]
    have ebR : nL r1 / 2048 * (nI p).toInt64 = nL bd := by rw [show (2048 : Int64) = nL 2048 from rfl, v_div (by omega) (by omega), v_of (by omega), v_mul, ← hq, ← hbd]
    by_cases hcb : c1 < bd
    · -- a zero
      have l1 : nL c1 < nL bd := (v_lt (by omega) (by omega)).mpr hcb
      have be0 : zg_i D1 5 7 = 0 := by rw [h1.be, if_pos (by omega)]
      obtain ⟨p1, p2, p3⟩ := lrn0 hp1 hp2 hz
      have hM := zM_put h1.md hk (Z k + 1) p1 p2 p3
      have h1v := h1.v
      have hA : zA n m g b bd c1 x1 e lc lp pb st (va_up Z k (Z k + 1)) (zp_i (zp_l D1 5 1 (nL bd)) 6 k (nI (p + (2048 - p) / 32))) (zp_l (zp_l (zp_i R1 5 (zf k) (nI (p + (2048 - p) / 32))) 0 17 (nL bd)) 0 18 (nL c1)) := ⟨⟨h1v.hn, h1v.hm, h1v.pC, h1v.pR, h1v.pB, h1v.kC, h1v.kR, h1v.kB, h1v.sz, h1v.fa, h1v.wh, h1v.wa, h1v.lo, h1v.kr, h1v.kc, h1v.c0, h1v.cs, h1v.en, h1v.hg, h1v.gC, h1v.gR, h1v.gB, h1v.bR, h1v.bC, h1v.bS⟩, h1.bC, h1.bR, (by omega), (by omega), rfl, rfl, h1.hc, h1.cC, rfl, (by rw [if_pos hcb]; exact be0), h1.nC, h1.nR, h1.eC, h1.eR, h1.xe, h1.em, ⟨hM.hc, hM.hp, hM.lcC, hM.lcR, hM.lpC, hM.lpR, hM.pbC, hM.pbR, hM.hs, hM.stC, hM.stR, hM.ch⟩⟩
      obtain ⟨D2, R2, k1, k2, k3, k4⟩ := d_keep hA
      have lC : g_Lin_learn_5 (nI k) 0 (zp_l D1 5 1 (nL bd)) = some (zp_i (zp_l D1 5 1 (nL bd)) 6 k (nI (p + (2048 - p) / 32))) := c_learn0 hk8 hp2 pC
      have lR := r_learn0 hkf hp2 pR
      have gR : zg_l (zp_i R1 5 (zf k) (nI (p + (2048 - p) / 32))) 0 18 = nL c1 := h1.cR
      have bC1 := h1.bC
      have bR1 := h1.bR
      refine ⟨bd, c1, x1, va_up Z k (Z k + 1), 0, D2, R2, ?_, ?_, k3, q0.trans (zQ.trans ?_ k4), Or.inl ⟨rfl, rfl⟩, fun _ => hcb, fun hrc => ?_⟩
      · simp only [Option.bind_some, ↓reduceIte, not_true_eq_false, not_false_eq_true, y_1, g_Src_codeBit, s1, bC1, z1, be0, h1.cC, h1.rC, z2, pC, ebC, l1, lC, k1]
        rfl
      · simp only [Option.bind_some, ↓reduceIte, not_true_eq_false, not_false_eq_true, y_1, g_R_bit, s2, bR1, z1', h1.cR, h1.rR, z2', pR, ebR, l1, lR, gR, k2]
        rfl
      · refine ⟨fun p k a1 a2 => ?_, fun p k a1 => ?_, fun k a1 a2 => ?_, fun k a1 a2 a3 a4 => ?_, fun k => ?_, fun k a1 => ?_⟩
        · simp [y_gi, y_il, a2]
        · simp [y_gl, y_li, a1]
        · simp [y_gi, y_il]
        · simp [y_gl, y_li, a1, a2]
        · simp [y_gi, y_il]
        · simp [y_gi, y_il]
      · -- not when the code is beyond
        rcases hsh with ⟨e1, e2⟩ | ⟨_, e1, y, _, e2⟩ <;> omega
    · -- a one
      have l1 : ¬ nL c1 < nL bd := fun t => hcb ((v_lt (by omega) (by omega)).mp t)
      obtain ⟨p1, p2, p3⟩ := lrn1 hp1 hp2 hz
      have hM := zM_put h1.md hk (Z k) p1 p2 p3
      have hZ : va_up Z k (Z k) = Z := by
        funext j
        unfold va_up
        by_cases hj : j = k
        · rw [if_pos hj, hj]
        · rw [if_neg hj]
      rw [hZ] at hM
      have h1v := h1.v
      have eC1 : nL r1 - nL bd = nL (r1 - bd) := v_sub (by omega)
      have eC2 : nL c1 - nL bd = nL (c1 - bd) := v_sub (by omega)
      have hbe : zg_i D1 5 7 = if c1 - bd < r1 - bd then 0 else 1 := by
        rw [h1.be]
        by_cases t : c1 < r1
        · rw [if_pos t, if_pos (by omega)]
        · rw [if_neg t, if_neg (by omega)]
      have hA : zA n m g b (r1 - bd) (c1 - bd) x1 e lc lp pb st Z (zp_i (zp_l (zp_l D1 5 1 (nL (r1 - bd))) 5 6 (nL (c1 - bd))) 6 k (nI (p - p / 32))) (zp_l (zp_l (zp_i R1 5 (zf k) (nI (p - p / 32))) 0 17 (nL (r1 - bd))) 0 18 (nL (c1 - bd))) := ⟨⟨h1v.hn, h1v.hm, h1v.pC, h1v.pR, h1v.pB, h1v.kC, h1v.kR, h1v.kB, h1v.sz, h1v.fa, h1v.wh, h1v.wa, h1v.lo, h1v.kr, h1v.kc, h1v.c0, h1v.cs, h1v.en, h1v.hg, h1v.gC, h1v.gR, h1v.gB, h1v.bR, h1v.bC, h1v.bS⟩, h1.bC, h1.bR, (by omega), (by omega), rfl, rfl, (by omega), rfl, rfl, hbe, h1.nC, h1.nR, h1.eC, h1.eR, h1.xe, h1.em, ⟨hM.hc, hM.hp, hM.lcC, hM.lcR, hM.lpC, hM.lpR, hM.pbC, hM.pbR, hM.hs, hM.stC, hM.stR, hM.ch⟩⟩
      obtain ⟨D2, R2, k1, k2, k3, k4⟩ := d_keep hA
      have lC : g_Lin_learn_5 (nI k) 1 (zp_l (zp_l D1 5 1 (nL (r1 - bd))) 5 6 (nL (c1 - bd))) = some (zp_i (zp_l (zp_l D1 5 1 (nL (r1 - bd))) 5 6 (nL (c1 - bd))) 6 k (nI (p - p / 32))) := c_learn1 hk8 hp2 pC
      have lR := r_learn1 hkf hp2 pR
      have gR : zg_l (zp_i R1 5 (zf k) (nI (p - p / 32))) 0 18 = nL c1 := h1.cR
      have gR2 : zg_l (zp_i R1 5 (zf k) (nI (p - p / 32))) 0 17 = nL r1 := h1.rR
      have bC1 := h1.bC
      have bR1 := h1.bR
      refine ⟨r1 - bd, c1 - bd, x1, Z, 1, D2, R2, ?_, ?_, k3, q0.trans (zQ.trans ?_ k4), Or.inr ⟨rfl, rfl⟩, fun t => by have := hlt t; omega, fun hrc => ⟨rfl, ?_, ?_⟩⟩
      · have hb : ((if ¬ zg_i D1 5 7 = 0 then some 1 else if nL c1 < nL bd then some 0 else some 1) : Option Int32) = some 1 := by
          by_cases t : ¬ zg_i D1 5 7 = 0
          · rw [if_pos t]
          · rw [if_neg t, if_neg l1]
        simp only [g_Src_codeBit, s1, bC1, z1, h1.cC, h1.rC, z2, pC, ebC, hb, z4, eC1, eC2, lC, k1, Option.bind_some, ↓reduceIte, not_false_eq_true]
        rfl
      · simp only [Option.bind_some, ↓reduceIte, not_true_eq_false, not_false_eq_true, y_1, g_R_bit, s2, bR1, z1', h1.cR, h1.rR, z2', pR, ebR, l1, lR, z4, gR, gR2, eC1, eC2, k2]
        rfl
      · refine ⟨fun p k a1 a2 => ?_, fun p k a1 => ?_, fun k a1 a2 => ?_, fun k a1 a2 a3 a4 => ?_, fun k => ?_, fun k a1 => ?_⟩
        · simp [y_gi, y_il, a2]
        · simp [y_gl, y_li, a1]
        · simp [y_gi, y_il]
        · simp [y_gl, y_li, a1, a2]
        · simp [y_gi, y_il]
        · simp [y_gi, y_il]
      · rcases hsh with ⟨e1, e2⟩ | ⟨_, e1, y, hy, e2⟩ <;> omega
      · -- how much the range lost
        have loss : r1 * (2048 - p) ≤ (r1 - bd) * 2048 := by
          have t1 : bd * 2048 ≤ r1 * p := by
            rw [hbd, Nat.mul_right_comm]
            exact Nat.mul_le_mul_right _ b3
          have t2 : r1 * (2048 - p) = r1 * 2048 - r1 * p := Nat.mul_sub _ _ _
          have t3 : (r1 - bd) * 2048 = r1 * 2048 - bd * 2048 := Nat.sub_mul _ _ _
          rw [t2, t3]
          omega
        have loss2 : r1 * 31 ^ (Z k) ≤ 2 * (r1 - bd) * 32 ^ (Z k) := by
          have t1 : 1024 * (r1 * 31 ^ (Z k)) ≤ 1024 * (2 * (r1 - bd) * 32 ^ (Z k)) := by
            calc 1024 * (r1 * 31 ^ (Z k)) = r1 * (1024 * 31 ^ (Z k)) := by ac_rfl
              _ ≤ r1 * ((2048 - p) * 32 ^ (Z k)) := Nat.mul_le_mul_left _ hz
              _ = (r1 * (2048 - p)) * 32 ^ (Z k) := by rw [Nat.mul_assoc]
              _ ≤ ((r1 - bd) * 2048) * 32 ^ (Z k) := Nat.mul_le_mul_right _ loss
              _ = 1024 * (2 * (r1 - bd) * 32 ^ (Z k)) := by
                rw [show 2048 = 1024 * 2 from rfl]
                ac_rfl
          exact Nat.le_of_mul_le_mul_left t1 (by omega)
        rcases hsh with ⟨e1, e2⟩ | ⟨e0, e1, y, hy, e2⟩
        · refine ⟨0, by omega, fun _ => rfl, ?_, by omega⟩
          rw [Nat.pow_zero, Nat.mul_one, ← e1]
          exact loss2
        · refine ⟨1, by omega, fun q => by omega, ?_, by omega⟩
          rw [Nat.pow_one, Nat.mul_comm r 256, ← e1]
          exact loss2
  · right
    have hbC := hX.bC
    have hbR := hX.bR
    exact ⟨D1, R1, by simp only [Option.bind_some, ↓reduceIte, not_true_eq_false, not_false_eq_true, y_1, g_Src_codeBit, s1, hbC], by simp only [Option.bind_some, ↓reduceIte, not_true_eq_false, not_false_eq_true, y_1, g_R_bit, s2, hbR], hX, zQ_shift s1 s2⟩
theorem d_even {n m g b r c x e lc lp pb st : Nat} {Z : Nat → Nat} {D R : zx_D} (h : zA n m g b r c x e lc lp pb st Z D R) (hov : c < r ∨ c < 2 ^ 54 ∨ 2 ^ 24 ≤ r) (w : Int32) :
    (∃ r' c' x' bit D' R', g_Src_codeEvenBit w D = some (nI bit, D') ∧ g_R_even R = some (nI bit, R') ∧ zA n m g b r' c' x' e lc lp pb st Z D' R' ∧ zQ D D' R R' ∧ bit ≤ 1 ∧ (c < r → c' < r' ∨ (c' = r' ∧ 2 ^ 23 ≤ r')) ∧ (r ≤ c → bit = 1 ∧ r' ≤ c' ∧ ∃ s, s ≤ 1 ∧ (2 ^ 24 ≤ r → s = 0) ∧ r * 256 ^ s * 31 ≤ 2 * r' * 32 ∧ c' - r' ≤ 256 ^ s * (c - r) + 255 * s + 1)) ∨
    (∃ D' R', g_Src_codeEvenBit w D = some (0, D') ∧ g_R_even R = some (0, R') ∧ zX n m g b D' R' ∧ zQ D D' R R') := by
  rcases d_shift h hov with ⟨r1, c1, x1, D1, R1, s1, s2, h1, hr24, hlt, hsh⟩ | ⟨D1, R1, s1, s2, hX⟩
  · left
    have q0 := zQ_shift s1 s2
    have z4 : ¬ (1 : Int32) = 0 := by decide
    have z01 : ¬ (0 : Int32) = 1 := by decide
    have hr2 := h1.hr2
    have hc63 := h1.hc
    have h1v := h1.v
    have bC1 := h1.bC
    have bR1 := h1.bR
    obtain ⟨hf, hhf⟩ : ∃ hf, hf = r1 / 2 := ⟨_, rfl⟩
    have ebC : zo_lushr (nL r1) 1 = nL hf := by rw [v_sh1 (by omega), ← hhf]
    have ebR : nL r1 / 2 = nL hf := by rw [show (2 : Int64) = nL 2 from rfl, v_div (by omega) (by omega), ← hhf]
    by_cases hcb : c1 < hf
    · have l1 : nL c1 < nL hf := (v_lt (by omega) (by omega)).mpr hcb
      have be0 : zg_i D1 5 7 = 0 := by rw [h1.be, if_pos (by omega)]
      have be1 : zg_i (zp_l D1 5 1 (nL hf)) 5 7 = 0 := be0
      have cc1 : zg_l (zp_l D1 5 1 (nL hf)) 5 6 = nL c1 := h1.cC
      have rr1 : zg_l (zp_l D1 5 1 (nL hf)) 5 1 = nL hf := rfl
      have hA : zA n m g b hf c1 x1 e lc lp pb st Z (zp_i (zp_l D1 5 1 (nL hf)) 5 7 0) (zp_l (zp_l R1 0 17 (nL hf)) 0 18 (nL c1)) := ⟨⟨h1v.hn, h1v.hm, h1v.pC, h1v.pR, h1v.pB, h1v.kC, h1v.kR, h1v.kB, h1v.sz, h1v.fa, h1v.wh, h1v.wa, h1v.lo, h1v.kr, h1v.kc, h1v.c0, h1v.cs, h1v.en, h1v.hg, h1v.gC, h1v.gR, h1v.gB, h1v.bR, h1v.bC, h1v.bS⟩, h1.bC, h1.bR, (by omega), (by omega), rfl, rfl, h1.hc, h1.cC, rfl, (by rw [if_pos hcb]; rfl), h1.nC, h1.nR, h1.eC, h1.eR, h1.xe, h1.em, ⟨h1.md.hc, h1.md.hp, h1.md.lcC, h1.md.lcR, h1.md.lpC, h1.md.lpR, h1.md.pbC, h1.md.pbR, h1.md.hs, h1.md.stC, h1.md.stR, h1.md.ch⟩⟩
      obtain ⟨D2, R2, k1, k2, k3, k4⟩ := d_keep hA
      refine ⟨hf, c1, x1, 0, D2, R2, ?_, ?_, k3, q0.trans (zQ.trans ?_ k4), by omega, fun _ => Or.inl hcb, fun hrc => ?_⟩
      · simp only [Option.bind_some, ↓reduceIte, not_true_eq_false, not_false_eq_true, y_1, g_Src_codeEvenBit, s1, bC1, be0, h1.cC, h1.rC, ebC, l1, z01, be1, cc1, rr1, k1]
        rfl
      · simp only [Option.bind_some, ↓reduceIte, not_true_eq_false, not_false_eq_true, y_1, g_R_even, s2, bR1, h1.cR, h1.rR, ebR, l1, k2]
        rfl
      · refine ⟨fun p k a1 a2 => ?_, fun p k a1 => ?_, fun k a1 a2 => ?_, fun k a1 a2 a3 a4 => ?_, fun k => ?_, fun k a1 => ?_⟩
        · simp [y_gi, y_il, a1]
        · simp [y_gl, y_li, a1]
        · simp [y_il]
        · simp [y_gl, a1, a2]
        · simp [y_il]
        · simp [y_il]
      · rcases hsh with ⟨e1, e2⟩ | ⟨_, e1, y, _, e2⟩ <;> omega
    · have l1 : ¬ nL c1 < nL hf := fun t => hcb ((v_lt (by omega) (by omega)).mp t)
      have eC2 : nL c1 - nL hf = nL (c1 - hf) := v_sub (by omega)
      have hb : ((if ¬ zg_i D1 5 7 = 0 then some 1 else if nL c1 < nL hf then some 0 else some 1) : Option Int32) = some 1 := by
        by_cases t : ¬ zg_i D1 5 7 = 0
        · rw [if_pos t]
        · rw [if_neg t, if_neg l1]
      have cc1 : zg_l (zp_l (zp_l D1 5 1 (nL hf)) 5 6 (nL (c1 - hf))) 5 6 = nL (c1 - hf) := rfl
      have rr1 : zg_l (zp_l (zp_l D1 5 1 (nL hf)) 5 6 (nL (c1 - hf))) 5 1 = nL hf := rfl
      have bb1 : zg_i (zp_l (zp_l D1 5 1 (nL hf)) 5 6 (nL (c1 - hf))) 5 7 = zg_i D1 5 7 := rfl
      have hA : zA n m g b hf (c1 - hf) x1 e lc lp pb st Z (zp_i (zp_l (zp_l D1 5 1 (nL hf)) 5 6 (nL (c1 - hf))) 5 7 (if c1 - hf < hf then 0 else 1)) (zp_l (zp_l R1 0 17 (nL hf)) 0 18 (nL (c1 - hf))) := ⟨⟨h1v.hn, h1v.hm, h1v.pC, h1v.pR, h1v.pB, h1v.kC, h1v.kR, h1v.kB, h1v.sz, h1v.fa, h1v.wh, h1v.wa, h1v.lo, h1v.kr, h1v.kc, h1v.c0, h1v.cs, h1v.en, h1v.hg, h1v.gC, h1v.gR, h1v.gB, h1v.bR, h1v.bC, h1v.bS⟩, h1.bC, h1.bR, (by omega), (by omega), rfl, rfl, (by omega), rfl, rfl, rfl, h1.nC, h1.nR, h1.eC, h1.eR, h1.xe, h1.em, ⟨h1.md.hc, h1.md.hp, h1.md.lcC, h1.md.lcR, h1.md.lpC, h1.md.lpR, h1.md.pbC, h1.md.pbR, h1.md.hs, h1.md.stC, h1.md.stR, h1.md.ch⟩⟩
      obtain ⟨D2, R2, k1, k2, k3, k4⟩ := d_keep hA
      refine ⟨hf, c1 - hf, x1, 1, D2, R2, ?_, ?_, k3, q0.trans (zQ.trans ?_ k4), by omega, fun t => by have := hlt t; omega, fun hrc => ⟨rfl, ?_, ?_⟩⟩
      · by_cases t : c1 - hf < hf
        · have l2 : nL (c1 - hf) < nL hf := (v_lt (by omega) (by omega)).mpr t
          have be0 : zg_i D1 5 7 = 0 := by rw [h1.be, if_pos (by omega)]
          rw [if_pos t] at k1
          have l3 : ¬ nL c1 < nL hf := l1
          simp only [Option.bind_some, ↓reduceIte, not_true_eq_false, not_false_eq_true, y_1, g_Src_codeEvenBit, s1, bC1, h1.cC, h1.rC, ebC, be0, l3, eC2, bb1, cc1, rr1, l2, k1]
          rfl
        · have l2 : ¬ nL (c1 - hf) < nL hf := fun u => t ((v_lt (by omega) (by omega)).mp u)
          rw [if_neg t] at k1
          simp only [g_Src_codeEvenBit, s1, bC1, h1.cC, h1.rC, ebC, hb, eC2, bb1, cc1, rr1, l2, k1, Option.bind_some, ↓reduceIte, not_true_eq_false, not_false_eq_true]
          by_cases u : ¬ zg_i D1 5 7 = 0
          · rw [if_pos u]
            rfl
          · rw [if_neg u]
            rfl
      · simp only [Option.bind_some, ↓reduceIte, not_true_eq_false, not_false_eq_true, y_1, g_R_even, s2, bR1, h1.cR, h1.rR, ebR, l1, z4, eC2, k2]
        rfl
      · refine ⟨fun p k a1 a2 => ?_, fun p k a1 => ?_, fun k a1 a2 => ?_, fun k a1 a2 a3 a4 => ?_, fun k => ?_, fun k a1 => ?_⟩
        · simp [y_gi, y_il, a1]
        · simp [y_gl, y_li, a1]
        · simp [y_il]
        · simp [y_gl, a1, a2]
        · simp [y_il]
        · simp [y_il]
      · rcases hsh with ⟨e1, e2⟩ | ⟨_, e1, y, hy, e2⟩ <;> omega
      · rcases hsh with ⟨e1, e2⟩ | ⟨e0, e1, y, hy, e2⟩
        · exact ⟨0, by omega, fun _ => rfl, by omega, by omega⟩
        · exact ⟨1, by omega, fun q => by omega, by omega, by omega⟩
  · right
    have hbC := hX.bC
    have hbR := hX.bR
    exact ⟨D1, R1, by simp only [Option.bind_some, ↓reduceIte, not_true_eq_false, not_false_eq_true, y_1, g_Src_codeEvenBit, s1, hbC], by simp only [Option.bind_some, ↓reduceIte, not_true_eq_false, not_false_eq_true, y_1, g_R_even, s2, hbR], hX, zQ_shift s1 s2⟩
