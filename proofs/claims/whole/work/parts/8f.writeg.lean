abbrev zWg (v : Nat) (D R : zx_D) : Prop := Nonempty ((v < 2 ^ 20) ∧ (zg_i R 0 7 = nI v) ∧ ((v ≤ 640 ∧ zWo v D R) ∨ (640 < v ∧ zg_i D 18 1 = nI 640 ∧ zg_i D 18 2 = 1)) ∧ (∀ i, i < v → i < 640 → y_B (zg_i R 4 i)))
theorem zWg.hv {v : Nat} {D R : zx_D} (h : zWg v D R) : v < 2 ^ 20 := h.elim fun q => q.1
theorem zWg.sR {v : Nat} {D R : zx_D} (h : zWg v D R) : zg_i R 0 7 = nI v := h.elim fun q => q.2.1
theorem zWg.st {v : Nat} {D R : zx_D} (h : zWg v D R) : (v ≤ 640 ∧ zWo v D R) ∨ (640 < v ∧ zg_i D 18 1 = nI 640 ∧ zg_i D 18 2 = 1) := h.elim fun q => q.2.2.1
theorem zWg.bs {v : Nat} {D R : zx_D} (h : zWg v D R) : ∀ i, i < v → i < 640 → y_B (zg_i R 4 i) := h.elim fun q => q.2.2.2
theorem zWo.g {w : Nat} {D R : zx_D} (h : zWo w D R) : zWg w D R := ⟨by have := h.hw; omega, h.sR, Or.inl ⟨h.hw, h⟩, fun i hi _ => (h.bs i hi).2⟩
theorem zWg.o {v : Nat} {D R : zx_D} (h : zWg v D R) (hv : v ≤ 640) : zWo v D R := by
  rcases h.st with ⟨_, q⟩ | ⟨q, _⟩
  · exact q
  · omega
theorem zWg.f {v : Nat} {D R : zx_D} (h : zWg v D R) (hv : 640 < v) : zg_i D 18 1 = nI 640 ∧ zg_i D 18 2 = 1 := by
  rcases h.st with ⟨q, _⟩ | ⟨_, q⟩
  · omega
  · exact q
theorem zWg.sC {v : Nat} {D R : zx_D} (h : zWg v D R) : zg_i D 18 1 = nI (if v ≤ 640 then v else 640) := by
  by_cases t : v ≤ 640
  · rw [if_pos t]
    exact (h.o t).sC
  · rw [if_neg t]
    exact (h.f (by omega)).1
theorem zWg.q {v : Nat} {D R D' R' : zx_D} (h : zWg v D R) (h1 : zg_i D' 18 1 = zg_i D 18 1) (h2 : zg_i D' 18 2 = zg_i D 18 2) (h3 : ∀ i, zg_i D' 19 i = zg_i D 19 i) (h4 : zg_i R' 0 7 = zg_i R 0 7) (h5 : ∀ i, zg_i R' 4 i = zg_i R 4 i) : zWg v D' R' := by
  refine ⟨h.hv, h4.trans h.sR, ?_, fun i h1 h2 => by rw [h5]; exact h.bs i h1 h2⟩
  rcases h.st with ⟨q1, q2⟩ | ⟨q1, q2, q3⟩
  · exact Or.inl ⟨q1, ⟨q2.hw, h1.trans q2.sC, h2.trans q2.oC, h4.trans q2.sR, fun i hi => by rw [h3, h5]; exact q2.bs i hi⟩⟩
  · exact Or.inr ⟨q1, h1.trans q2, h2.trans q3⟩
theorem r_writeF {v : Nat} {R : zx_D} (b : Int32) (h : zg_i R 0 7 = nI v) (hv : 640 ≤ v) (hv2 : v < 2 ^ 20) : g_R_write b R = some (zp_i R 0 7 (nI (v + 1))) := by
  have l2 : (640 : Int32) ≤ nI v := (y_le (a := 640) (by omega) (by omega)).mpr hv
  simp only [g_R_write, h, l2, y_1, ↓reduceIte]
theorem w_g2 {v : Nat} {D R : zx_D} {b b' : Int32} (h : zWg v D R) (hb : v < 640 → b = b' ∧ y_B b') (hv : v + 1 < 2 ^ 20) : ∃ D' R', g_Row_append_18 b D = some D' ∧ g_R_write b' R = some R' ∧ zWg (v + 1) D' R' ∧ zWq D D' R R' := by
  by_cases t : v < 640
  · obtain ⟨rfl, hB⟩ := hb t
    obtain ⟨t1, t2, t3, t4⟩ := w_app (h.o (by omega)) hB t
    exact ⟨_, _, t1, t2, t3.g, t4⟩
  · have w2 := r_writeF b' h.sR (by omega) (by omega)
    by_cases u : v = 640
    · subst u
      obtain ⟨t1, _, _, _⟩ := w_full (b := b) (h.o (by omega))
      refine ⟨_, _, t1, w2, ⟨hv, rfl, Or.inr ⟨by omega, (h.o (by omega)).sC, rfl⟩, fun i h1 h2 => h.bs i (by omega) h2⟩, ⟨fun p k a1 a2 => ?_, fun p k => rfl, fun k a1 => ?_, fun p k a1 a2 => ?_, fun p k => rfl⟩⟩
      · rw [y_gi, if_neg (fun q => a1 q.1)]
      · rw [y_gi, if_neg (fun q => a1 q.2)]
      · rw [y_gi, if_neg (fun q => a1 q.1)]
    · obtain ⟨f1, f2⟩ := h.f (by omega)
      refine ⟨D, _, w_appC b f1 f2, w2, ⟨hv, rfl, Or.inr ⟨by omega, f1, f2⟩, fun i h1 h2 => h.bs i (by omega) h2⟩, ⟨fun p k a1 a2 => rfl, fun p k => rfl, fun k a1 => ?_, fun p k a1 a2 => ?_, fun p k => rfl⟩⟩
      · rw [y_gi, if_neg (fun q => a1 q.2)]
      · rw [y_gi, if_neg (fun q => a1 q.1)]
theorem w_lowGL (x x' : Int64) (v0 : Nat) (hx : v0 ≤ 640 → x = x') : ∀ (j k1 k2 i c v : Nat) (D R : zx_D), i + j = c → c ≤ 8 → j < k1 → j < k2 → v0 ≤ v → zWg v D R → v + j < 2 ^ 20 → ∃ D' R', g_Row_appendLowFirst_18_3 x (nI c) k1 (nI i) D = some D' ∧ g_R_writeNumber_3 x' (nI c) k2 (nI i) R = some R' ∧ zWg (v + j) D' R' ∧ zWq D D' R R'
  | 0, k1 + 1, k2 + 1, i, c, v, D, R, hi, hc, _, _, _, h, _ => by
    have l : nI c ≤ nI i := (y_le (by omega) (by omega)).mpr (by omega)
    exact ⟨D, R, by rw [g_Row_appendLowFirst_18_3, if_pos l], by rw [g_R_writeNumber_3, if_pos l], h, zWq_rfl⟩
  | j + 1, k1 + 1, k2 + 1, i, c, v, D, R, hi, hc, h1, h2, h0, h, hv => by
    have l : ¬ nI c ≤ nI i := fun q => by have := (y_le (by omega) (by omega)).mp q; omega
    obtain ⟨D1, R1, t1, t2, t3, t4⟩ := w_g2 (b := (zo_lushr x (8 * nI i)).toInt32 &&& 255) (b' := ((zo_lshr x' (8 * nI i)) &&& 255).toInt32) h (fun t => by
      rw [hx (by omega)]
      exact ⟨y_byte x' (by omega), by rw [← y_byte x' (by omega)]; exact y_B_of⟩) (by omega)
    obtain ⟨D', R', u1, u2, u3, u4⟩ := w_lowGL x x' v0 hx j k1 k2 (i + 1) c (v + 1) D1 R1 (by omega) hc (by omega) (by omega) (by omega) t3 (by omega)
    refine ⟨D', R', ?_, ?_, by rwa [show v + 1 + j = v + (j + 1) by omega] at u3, t4.trans u4⟩
    · rw [g_Row_appendLowFirst_18_3, if_neg l, t1, o_sb, y_1, u1]
    · rw [g_R_writeNumber_3, if_neg l, t2, o_sb, y_1, u2]
theorem w_lowG {v : Nat} {D R : zx_D} (x x' : Int64) (c : Nat) (hc : c ≤ 8) (h : zWg v D R) (hx : v ≤ 640 → x = x') (hv : v + c < 2 ^ 20) : ∃ D' R', g_Row_appendLowFirst_18 x (nI c) D = some D' ∧ g_R_writeNumber x' (nI c) R = some R' ∧ zWg (v + c) D' R' ∧ zWq D D' R R' := by
  obtain ⟨D', R', u1, u2, u3, u4⟩ := w_lowGL x x' v hx c 10000 10000 0 c v D R (by omega) hc (by omega) (by omega) (Nat.le_refl _) h hv
  have u1 : g_Row_appendLowFirst_18_3 x (nI c) 10000 0 D = some D' := u1
  have u2 : g_R_writeNumber_3 x' (nI c) 10000 0 R = some R' := u2
  exact ⟨D', R', by rw [g_Row_appendLowFirst_18, u1, o_sb], by rw [g_R_writeNumber, u2, o_sb], u3, u4⟩
theorem w_sumRf (R : zx_D) {v : Nat} (hv : 640 < v) (hv2 : v < 2 ^ 20) (hs : zg_i R 0 7 = nI v) (hb : ∀ i, i < 640 → y_B (zg_i R 4 i)) : ∀ (c k j : Nat) (s : Int64), c < k → 640 ≤ j + c → j < 2 ^ 20 → y_P s → ∃ q, g_R_writeSum_7 R k s (nI j) = some q
  | c, k + 1, j, s, hk, hj, hj2, hp => by
    rw [g_R_writeSum_7, hs]
    by_cases t : nI v ≤ nI j
    · exact ⟨s, if_pos t⟩
    · rw [if_neg t]
      by_cases u : 640 ≤ j
      · exact ⟨s, if_pos (show (640 : Int32) ≤ nI j from (y_le (a := 640) (by omega) (by omega)).mpr u)⟩
      · rw [if_neg (show ¬ (640 : Int32) ≤ nI j from fun q => u ((y_le (a := 640) (by omega) (by omega)).mp q)), if_pos (y_in (by omega) (by omega)), y_zn (by omega), y_four R hp (hb j (by omega)), o_sb, y_1]
        match c, hj with
        | 0, hj => exact absurd hj (by omega)
        | c + 1, hj => exact w_sumRf R hv hv2 hs hb c k (j + 1) _ (by omega) (by omega) (by omega) (y_by_P y_P_4 hp (hb j (by omega)))
theorem w_wsum {v s : Nat} {D R : zx_D} (h : zWg v D R) (hs : s ≤ v) (hv : v + 4 < 2 ^ 20) : ∃ D' R' x, g_P_sumFour_19 (nI (if s ≤ 640 then s else 640)) (zg_i D 18 1) D = some x ∧ g_Row_appendLowFirst_18 x 4 D = some D' ∧ g_R_writeSum (nI s) R = some R' ∧ zWg (v + 4) D' R' ∧ zWq D D' R R' := by
  have key : ∀ x y, g_P_sumFour_19 (nI (if s ≤ 640 then s else 640)) (zg_i D 18 1) D = some x → g_R_writeSum_7 R 10000 4294967295 (nI s) = some y → (v ≤ 640 → x = y ^^^ 4294967295) → ∃ D' R' x, g_P_sumFour_19 (nI (if s ≤ 640 then s else 640)) (zg_i D 18 1) D = some x ∧ g_Row_appendLowFirst_18 x 4 D = some D' ∧ g_R_writeSum (nI s) R = some R' ∧ zWg (v + 4) D' R' ∧ zWq D D' R R' := by
    intro x y hx hy hxy
    obtain ⟨D', R', t1, t2, t3, t4⟩ := w_lowG x (y ^^^ 4294967295) 4 (by omega) h hxy hv
    have t2 : g_R_writeNumber (y ^^^ 4294967295) 4 R = some R' := t2
    exact ⟨D', R', x, hx, t1, by rw [g_R_writeSum, hy, o_sb, t2, o_sb], t3, t4⟩
  by_cases t : v ≤ 640
  · obtain ⟨y, y1, y2⟩ := w_sum (h.o t) hs
    refine key (y ^^^ 4294967295) y ?_ y2 (fun _ => rfl)
    rw [if_pos (by omega), (h.o t).sC]
    exact y1
  · obtain ⟨f1, f2⟩ := h.f (by omega)
    obtain ⟨y, hy⟩ := w_sumRf R (by omega) h.hv h.sR (fun i hi => h.bs i (by omega) hi) 640 10000 s 4294967295 (by omega) (by omega) (by have := h.hv; omega) y_P_F
    have hx : g_P_sumFour_19 (nI (if s ≤ 640 then s else 640)) (nI 640) D = _ := y_sum4_19 D (by omega) (by split <;> omega)
    rw [← f1] at hx
    exact key _ y hx hy (fun q => by omega)
theorem c_fill0 {D : zx_D} (x : Int32) (h1 : zg_i D 18 1 = nI 640) (h2 : zg_i D 18 2 = 1) : ∀ (j k i : Nat), i + j = 3 → j < k → g_Pkg_fillUp_2 x k (nI i) D = some D
  | 0, k + 1, i, hi, _ => by
    rw [g_Pkg_fillUp_2, if_pos (show (3 : Int32) ≤ nI i from (y_le (a := 3) (by omega) (by omega)).mpr (by omega))]
  | j + 1, k + 1, i, hi, hk => by
    rw [g_Pkg_fillUp_2, if_neg (show ¬ (3 : Int32) ≤ nI i from fun q => by have := (y_le (a := 3) (by omega) (by omega)).mp q; omega)]
    by_cases t : zo_rem (zg_i D 18 1 - x) 4 = 0
    · rw [if_pos t]
    · rw [if_neg t, w_appC 0 h1 h2, o_sb, y_1]
      exact c_fill0 x h1 h2 j k (i + 1) (by omega) (by omega)
theorem w_zeroGL (s : Nat) : ∀ (j i k1 k2 v : Nat) (D R : zx_D), i + j = 3 → j < k1 → j + 1 < k2 → zWg v D R → s ≤ v → (v - s) % 4 = 0 ∨ 4 - (v - s) % 4 ≤ j → v + j < 2 ^ 20 →
    ∃ v' D' R', v ≤ v' ∧ v' < v + 4 ∧ (v' - s) % 4 = 0 ∧ g_Pkg_fillUp_2 (nI (if s ≤ 640 then s else 640)) k1 (nI i) D = some D' ∧ g_R_writeZeros_0 (nI s) k2 R = some R' ∧ zWg v' D' R' ∧ zWq D D' R R'
  | j, i, k1 + 1, k2 + 1, v, D, R, hi, h1, h2, h, hs, ht, hv => by
    have hv20 := h.hv
    have hr : zo_rem (nI v - nI s) 4 = nI ((v - s) % 4) := by rw [y_sub hs]; exact y_rem (b := 4) (by omega) (by omega)
    by_cases ht0 : (v - s) % 4 = 0
    · have q : nI ((v - s) % 4) = 0 := by rw [ht0]; rfl
      refine ⟨v, D, R, Nat.le_refl _, by omega, ht0, ?_, ?_, h, zWq_rfl⟩
      · by_cases t : v ≤ 640
        · rw [g_Pkg_fillUp_2, (h.o t).sC, if_pos (show s ≤ 640 by omega), hr, if_pos q]
          split <;> rfl
        · obtain ⟨f1, f2⟩ := h.f (by omega)
          exact c_fill0 _ f1 f2 j (k1 + 1) i hi (by omega)
      · rw [g_R_writeZeros_0, h.sR, hr, if_pos q]
    · have q : ¬ nI ((v - s) % 4) = 0 := fun q => ht0 ((y_eq (b := 0) (by omega) (by omega)).mp q)
      match j, ht with
      | 0, ht => exact absurd ht (by omega)
      | j + 1, ht =>
        have e3 : ¬ (3 : Int32) ≤ nI i := fun q => by have := (y_le (a := 3) (by omega) (by omega)).mp q; omega
        obtain ⟨D1, R1, t1, t2, t3, t4⟩ := w_g2 (b := 0) (b' := 0) h (fun _ => ⟨rfl, 0, by omega, rfl⟩) (by omega)
        obtain ⟨v', D', R', u1, u2, u3, u4, u5, u6, u7⟩ := w_zeroGL s j (i + 1) k1 k2 (v + 1) D1 R1 (by omega) (by omega) (by omega) t3 (by omega) (by omega) (by omega)
        refine ⟨v', D', R', by omega, by omega, u3, ?_, ?_, u6, t4.trans u7⟩
        · by_cases t : v ≤ 640
          · rw [g_Pkg_fillUp_2, if_neg e3, (h.o t).sC, if_pos (show s ≤ 640 by omega), hr, if_neg q, t1, o_sb, y_1]
            rw [if_pos (show s ≤ 640 by omega)] at u4
            exact u4
          · obtain ⟨f1, f2⟩ := h.f (by omega)
            have c0 := w_appC 0 f1 f2
            have e1 : D1 = D := by
              have := t1.symm.trans c0
              exact Option.some.inj this
            subst e1
            have c1 := c_fill0 (nI (if s ≤ 640 then s else 640)) f1 f2 (j + 1) (k1 + 1) i (by omega) (by omega)
            have c2 := c_fill0 (nI (if s ≤ 640 then s else 640)) f1 f2 j k1 (i + 1) (by omega) (by omega)
            rw [c1, ← c2, u4]
        · rw [g_R_writeZeros_0, h.sR, hr, if_neg q, t2, o_sb, u5]
theorem w_zeroG {v s : Nat} {D R : zx_D} (h : zWg v D R) (hs : s ≤ v) (hv : v + 4 < 2 ^ 20) : ∃ v' D' R', v ≤ v' ∧ v' < v + 4 ∧ (v' - s) % 4 = 0 ∧ g_Pkg_fillUp (nI (if s ≤ 640 then s else 640)) D = some D' ∧ g_R_writeZeros (nI s) R = some R' ∧ zWg v' D' R' ∧ zWq D D' R R' := by
  obtain ⟨v', D', R', u1, u2, u3, u4, u5, u6, u7⟩ := w_zeroGL s 3 0 10000 10001 v D R rfl (by omega) (by omega) h hs (by omega) (by omega)
  have u4 : g_Pkg_fillUp_2 (nI (if s ≤ 640 then s else 640)) 10000 0 D = some D' := u4
  exact ⟨v', D', R', u1, u2, u3, by rw [g_Pkg_fillUp, u4, o_sb], r_wz u5, u6, u7⟩
theorem v_and127 {a : Nat} (ha : a < 2 ^ 31) : nL a &&& 127 = nL (a % 128) := by
  apply Int64.toBitVec_inj.mp
  have e1 : ∀ n, (nL n).toBitVec = BitVec.ofNat 64 n := fun n => rfl
  rw [Int64.toBitVec_and, show (127 : Int64) = nL 127 from rfl, e1, e1, e1]
  apply BitVec.eq_of_toNat_eq
  rw [BitVec.toNat_and, BitVec.toNat_ofNat, BitVec.toNat_ofNat, BitVec.toNat_ofNat, Nat.mod_eq_of_lt (show a < 2 ^ 64 by omega), Nat.mod_eq_of_lt (show 127 < 2 ^ 64 by omega), Nat.mod_eq_of_lt (show a % 128 < 2 ^ 64 by omega), show 127 = 2 ^ 7 - 1 from rfl, Nat.and_two_pow_sub_one_eq_mod]
theorem y_and127' {a : Nat} (ha : a < 2 ^ 31) : nI a &&& 127 = nI (a % 128) := by
  apply Int32.toBitVec_inj.mp
  rw [show (127 : Int32) = nI 127 from rfl, Int32.toBitVec_and, y_ofNat_bv, y_ofNat_bv, y_ofNat_bv]
  apply BitVec.eq_of_toNat_eq
  rw [BitVec.toNat_and, BitVec.toNat_ofNat, BitVec.toNat_ofNat, BitVec.toNat_ofNat, Nat.mod_eq_of_lt (show a < 2 ^ 32 by omega), Nat.mod_eq_of_lt (show 127 < 2 ^ 32 by omega), Nat.mod_eq_of_lt (show a % 128 < 2 ^ 32 by omega), show 127 = 2 ^ 7 - 1 from rfl, Nat.and_two_pow_sub_one_eq_mod]
theorem y_or128 {a : Nat} (ha : a < 128) : nI a ||| 128 = nI (a + 128) := by
  have key : ∀ a < 128, nI a ||| 128 = nI (a + 128) := by decide +kernel
  exact key a ha
theorem y_sh7 {p : Nat} (h : p < 2 ^ 31) : zo_shr (nI p) 7 = nI (p / 128) := by
  apply Int32.toBitVec_inj.mp
  have e1 : (zo_shr (nI p) 7).toBitVec = (BitVec.ofNat 32 p).sshiftRight 7 := rfl
  have hm : (BitVec.ofNat 32 p).msb = false := by
    rw [BitVec.msb_eq_decide, BitVec.toNat_ofNat, Nat.mod_eq_of_lt (by omega)]
    exact decide_eq_false (by omega)
  rw [e1, BitVec.sshiftRight_eq_of_msb_false hm, y_ofNat_bv]
  apply BitVec.eq_of_toNat_eq
  rw [BitVec.toNat_ushiftRight, BitVec.toNat_ofNat, BitVec.toNat_ofNat, Nat.shiftRight_eq_div_pow, Nat.mod_eq_of_lt (by omega)]
  have : p / 2 ^ 7 ≤ p := Nat.div_le_self _ _
  rw [Nat.mod_eq_of_lt (by omega)]
theorem v_sh7 {r : Nat} (h : r < 2 ^ 63) : zo_lushr (nL r) 7 = nL (r / 128) := v_shr (s := 7) h rfl
theorem r_vliF : ∀ (j k u v : Nat) (R : zx_D), u < 128 ^ (j + 1) → u < 2 ^ 31 → j < k → zg_i R 0 7 = nI v → 640 ≤ v → v + j < 2 ^ 20 → ∃ v' y R', v ≤ v' ∧ v' ≤ v + j ∧ g_R_writeVli_2 k (nI u) R = some (y, R') ∧ R' = zp_i R 0 7 (nI v')
  | j, k + 1, u, v, R, hu, hu2, hk, hs, hv, hv2 => by
    rw [g_R_writeVli_2]
    by_cases t : u ≤ 127
    · exact ⟨v, nI u, R, Nat.le_refl _, by omega, if_pos (show nI u ≤ 127 from (y_le (b := 127) (by omega) (by omega)).mpr t), (y_same' hs).symm⟩
    · rw [if_neg (show ¬ nI u ≤ 127 from fun q => t ((y_le (b := 127) (by omega) (by omega)).mp q)), r_writeF _ hs hv (by omega), o_sb, y_sh7 hu2]
      match j, hu with
      | 0, hu => exact absurd hu (by omega)
      | j + 1, hu =>
        have hu3 : u / 128 < 128 ^ (j + 1) := by
          apply Nat.div_lt_of_lt_mul
          rw [Nat.mul_comm, ← Nat.pow_succ]
          exact hu
        obtain ⟨v', y, R', a1, a2, a3, a4⟩ := r_vliF j k (u / 128) (v + 1) (zp_i R 0 7 (nI (v + 1))) hu3 (by omega) (by omega) rfl (by omega) (by omega)
        exact ⟨v', y, R', by omega, by omega, a3, by rw [a4, y_pp]⟩
theorem c_numF {D : zx_D} (h1 : zg_i D 18 1 = nI 640) (h2 : zg_i D 18 2 = 1) : ∀ (j k i : Nat) (x : Int64), i + j = 8 → j < k → ∃ y, g_Pkg_appendNumber_5 k x (nI i) D = some (y, D)
  | 0, k + 1, i, x, hi, _ => by
    rw [g_Pkg_appendNumber_5]
    exact ⟨x, if_pos (show (8 : Int32) ≤ nI i from (y_le (a := 8) (by omega) (by omega)).mpr (by omega))⟩
  | j + 1, k + 1, i, x, hi, hk => by
    rw [g_Pkg_appendNumber_5, if_neg (show ¬ (8 : Int32) ≤ nI i from fun q => by have := (y_le (a := 8) (by omega) (by omega)).mp q; omega)]
    by_cases t : x < 128
    · exact ⟨x, if_pos t⟩
    · rw [if_neg t, w_appC _ h1 h2, o_sb, y_1]
      exact c_numF h1 h2 j k (i + 1) _ (by omega) (by omega)
theorem w_vliL : ∀ (j k1 k2 i u v : Nat) (D R : zx_D), u < 128 ^ (j + 1) → u < 2 ^ 31 → i + j < 8 → j < k1 → j < k2 → zWg v D R → v + j + 9 < 2 ^ 20 → ∃ v' D' R' y y', v ≤ v' ∧ v' ≤ v + j ∧ g_Pkg_appendNumber_5 k1 (nL u) (nI i) D = some (y, D') ∧ g_R_writeVli_2 k2 (nI u) R = some (y', R') ∧ zWg v' D' R' ∧ zWq D D' R R' ∧ (v' < 640 → y.toInt32 = y' ∧ y_B y')
  | j, k1 + 1, k2 + 1, i, u, v, D, R, hu, hu2, hi, h1, h2, h, hv => by
    have e8 : ¬ (8 : Int32) ≤ nI i := fun q => by have := (y_le (a := 8) (by omega) (by omega)).mp q; omega
    rw [g_Pkg_appendNumber_5, g_R_writeVli_2, if_neg e8]
    by_cases t : u ≤ 127
    · rw [if_pos (show nI u ≤ 127 from (y_le (b := 127) (by omega) (by omega)).mpr t), if_pos (show nL u < 128 from (v_lt (b := 128) (by omega) (by omega)).mpr (by omega))]
      exact ⟨v, D, R, nL u, nI u, Nat.le_refl _, by omega, rfl, rfl, h, zWq_rfl, fun _ => ⟨v_to u, u, by omega, rfl⟩⟩
    · rw [if_neg (show ¬ nI u ≤ 127 from fun q => t ((y_le (b := 127) (by omega) (by omega)).mp q)), if_neg (show ¬ nL u < 128 from fun q => by have := (v_lt (b := 128) (by omega) (by omega)).mp q; omega), v_and127 hu2, v_to, y_and127' hu2, y_sh7 hu2, v_sh7 (by omega)]
      have eb : nI (u % 128) + 128 = nI (u % 128) ||| 128 := by
        rw [y_or128 (Nat.mod_lt _ (by omega))]
        exact y_add _ 128
      obtain ⟨D1, R1, t1, t2, t3, t4⟩ := w_g2 (b := nI (u % 128) + 128) (b' := nI (u % 128) ||| 128) h (fun _ => ⟨eb, u % 128 + 128, by omega, y_or128 (Nat.mod_lt _ (by omega))⟩) (by omega)
      rw [t1, t2, o_sb, o_sb, y_1]
      match j, hu with
      | 0, hu => exact absurd hu (by omega)
      | j + 1, hu =>
        have hu3 : u / 128 < 128 ^ (j + 1) := by
          apply Nat.div_lt_of_lt_mul
          rw [Nat.mul_comm, ← Nat.pow_succ]
          exact hu
        obtain ⟨v', D', R', y, y', a1, a2, a3, a4, a5, a6, a7⟩ := w_vliL j k1 k2 (i + 1) (u / 128) (v + 1) D1 R1 hu3 (by omega) (by omega) (by omega) (by omega) t3 (by omega)
        exact ⟨v', D', R', y, y', by omega, by omega, a3, a4, a5, t4.trans a6, a7⟩
theorem w_vli {v u : Nat} {x : Int64} {D R : zx_D} (h : zWg v D R) (hu : u < 2 ^ 20) (hx : v ≤ 640 → x = nL u) (hv : v + 20 < 2 ^ 20) : ∃ v' D' R', v < v' ∧ v' ≤ v + 3 ∧ g_Pkg_appendNumber x D = some D' ∧ g_R_writeVli (nI u) R = some R' ∧ zWg v' D' R' ∧ zWq D D' R R' := by
  by_cases t : v ≤ 640
  · rw [hx t]
    obtain ⟨v', D1, R1, y, y', a1, a2, a3, a4, a5, a6, a7⟩ := w_vliL 2 10000 10000 0 u v D R (by omega) (by omega) (by omega) (by omega) (by omega) h (by omega)
    have a3 : g_Pkg_appendNumber_5 10000 (nL u) 0 D = some (y, D1) := a3
    obtain ⟨D2, R2, b1, b2, b3, b4⟩ := w_g2 (b := y.toInt32) (b' := y') a5 a7 (by omega)
    exact ⟨v' + 1, D2, R2, by omega, by omega, by rw [g_Pkg_appendNumber, a3, o_sb, b1, o_sb], by rw [g_R_writeVli, a4, o_sb, b2, o_sb], b3, a6.trans b4⟩
  · obtain ⟨f1, f2⟩ := h.f (by omega)
    obtain ⟨y, c1⟩ := c_numF f1 f2 8 10000 0 x (by omega) (by omega)
    have c1 : g_Pkg_appendNumber_5 10000 x 0 D = some (y, D) := c1
    obtain ⟨v', y', R1, a1, a2, a3, a4⟩ := r_vliF 2 10000 u v R (by omega) (by omega) (by omega) h.sR (by omega) (by omega)
    have w1 : zWg v' D R1 := by
      rw [a4]
      exact ⟨by omega, rfl, Or.inr ⟨by omega, f1, f2⟩, fun i h1 h2 => h.bs i (by omega) h2⟩
    have q1 : zWq D D R R1 := by
      rw [a4]
      exact ⟨fun _ _ _ _ => rfl, fun _ _ => rfl, fun k hk => by rw [y_gi, if_neg (fun q => hk q.2)], fun p k h1 h2 => by rw [y_gi, if_neg (fun q => h1 q.1)], fun _ _ => rfl⟩
    obtain ⟨D2, R2, b1, b2, b3, b4⟩ := w_g2 (b := y.toInt32) (b' := y') w1 (fun q => by omega) (by omega)
    exact ⟨v' + 1, D2, R2, by omega, by omega, by rw [g_Pkg_appendNumber, c1, o_sb, b1, o_sb], by rw [g_R_writeVli, a3, o_sb, b2, o_sb], b3, q1.trans b4⟩
