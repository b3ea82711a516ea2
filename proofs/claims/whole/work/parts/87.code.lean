theorem v_or {u v : Nat} (hu : u < 2 ^ 63) (hv : v < 2 ^ 63) : nL u ||| nL v = nL (u ||| v) := by
  have huv : u ||| v < 2 ^ 63 := Nat.or_lt_two_pow hu hv
  apply Int64.toBitVec_inj.mp
  have e1 : ∀ n, (nL n).toBitVec = BitVec.ofNat 64 n := fun n => rfl
  rw [Int64.toBitVec_or, e1, e1, e1]
  apply BitVec.eq_of_toNat_eq
  rw [BitVec.toNat_or, BitVec.toNat_ofNat, BitVec.toNat_ofNat, BitVec.toNat_ofNat, Nat.mod_eq_of_lt (by omega), Nat.mod_eq_of_lt (by omega), Nat.mod_eq_of_lt (by omega)]
theorem v_l24 {r : Nat} (h : r < 256) : zo_lshl (nL r) 24 = nL (2 ^ 24 * r) := by
  apply Int64.toBitVec_inj.mp
  have e1 : (zo_lshl (nL r) 24).toBitVec = BitVec.ofNat 64 r <<< 24 := rfl
  have e2 : (nL (2 ^ 24 * r)).toBitVec = BitVec.ofNat 64 (2 ^ 24 * r) := rfl
  rw [e1, e2]
  apply BitVec.eq_of_toNat_eq
  rw [BitVec.toNat_shiftLeft, BitVec.toNat_ofNat, BitVec.toNat_ofNat, Nat.shiftLeft_eq, Nat.mod_eq_of_lt (show r < 2 ^ 64 by omega)]
  congr 1
  omega
theorem y_shn {r s w : Nat} {u : Int32} (e : u.toBitVec = BitVec.ofNat 32 r <<< s) (h : r < 2 ^ 32) (hw : w = r * 2 ^ s) : u = nI w := by
  apply Int32.toBitVec_inj.mp
  rw [e, y_ofNat_bv]
  apply BitVec.eq_of_toNat_eq
  rw [BitVec.toNat_shiftLeft, BitVec.toNat_ofNat, BitVec.toNat_ofNat, Nat.shiftLeft_eq, Nat.mod_eq_of_lt h, hw]
theorem v_code {b1 b2 b3 b4 : Nat} (h1 : b1 < 256) (h2 : b2 < 256) (h3 : b3 < 256) (h4 : b4 < 256) : ((zo_lshl ((nI b1).toInt64) 24 ||| (zo_shl (nI b2) 16).toInt64) ||| (zo_shl (nI b3) 8).toInt64) ||| (nI b4).toInt64 = nL (256 * (256 * (256 * b1 + b2) + b3) + b4) := by
  rw [y_shn (u := zo_shl (nI b2) 16) (r := b2) (s := 16) (w := b2 * 65536) rfl (by omega) rfl, y_shn (u := zo_shl (nI b3) 8) (r := b3) (s := 8) (w := b3 * 256) rfl (by omega) rfl]
  rw [v_of (by omega), v_of (by omega), v_of (by omega), v_of (by omega), v_l24 h1, v_or (by omega) (by omega)]
  rw [← Nat.two_pow_add_eq_or_of_lt (show b2 * 65536 < 2 ^ 24 by omega), v_or (by omega) (by omega), show 2 ^ 24 * b1 + b2 * 65536 = 2 ^ 16 * (256 * b1 + b2) by omega]
  rw [← Nat.two_pow_add_eq_or_of_lt (show b3 * 256 < 2 ^ 16 by omega), v_or (by omega) (by omega), show 2 ^ 16 * (256 * b1 + b2) + b3 * 256 = 2 ^ 8 * (256 * (256 * b1 + b2) + b3) by omega]
  rw [← Nat.two_pow_add_eq_or_of_lt (show b4 < 2 ^ 8 by omega)]
theorem c_bst {a i v y k : Nat} {E : zx_D} (hi : i < 5) (hb : zg_i E 5 2 = 0) (hv : v < 2 ^ 32) (h6 : zg_l E 5 6 = nL v) (ha : a + i < 640) (hy : zg_i E 4 (a + i) = nI y) (hy2 : y < 256) : g_Src_begin_4_54 (nI a) (k + 1) (nI i) E = g_Src_begin_4_54 (nI a) k (nI (i + 1)) (zp_l E 5 6 (nL (256 * v + y))) := by
  rw [g_Src_begin_4_54, if_neg (show ¬ (5 : Int32) ≤ nI i from fun q => by have := (y_le (a := 5) (by omega) (by omega)).mp q; omega), if_neg (fun q => q hb), y_add, if_pos (y_in (by omega) (by omega)), y_zn (by omega), h6, hy, v_of (by omega), v_sh8 (by omega), v_add, y_1]
def r_cod (x1 x2 : Int32) (q4 : zx_D) : Option zx_D :=
    if x2 < 5 then
      (g_R_fail (-6) (zg_i q4 0 28) q4).bind fun q5 =>
      some q5
    else
      if zk_in (zg_i q4 0 28) 640 = true then
      if zg_i q4 2 (zn (zg_i q4 0 28)) = 0 then
        if zk_in ((zg_i q4 0 28) + 1) 640 = true then
        if zk_in ((zg_i q4 0 28) + 2) 640 = true then
        if zk_in ((zg_i q4 0 28) + 3) 640 = true then
        if zk_in ((zg_i q4 0 28) + 4) 640 = true then
        (g_R_coded_206 10000 (zp_i (zp_i (zp_i (zp_i (zp_l (zp_l q4 0 17 4294967295) 0 18 ((((zo_lshl (((zg_i q4 2 (zn ((zg_i q4 0 28) + 1)))).toInt64) 24) ||| (((zo_shl (zg_i q4 2 (zn ((zg_i q4 0 28) + 2))) 16)).toInt64)) ||| (((zo_shl (zg_i q4 2 (zn ((zg_i q4 0 28) + 3))) 8)).toInt64)) ||| (((zg_i q4 2 (zn ((zg_i q4 0 28) + 4)))).toInt64))) 0 19 ((zg_i q4 0 28) + 5)) 0 20 ((zg_i q4 0 28) + x2)) 0 21 x1) 0 22 0)).bind fun q7 =>
        ((
          if ¬ zg_i q7 0 22 = 0 then
            some q7
          else
            (g_R_shift q7).bind fun q8 =>
            some q8
        ) : Option (zx_D)).bind fun q9 =>
        if ¬ zg_i q9 0 22 = 0 then
          (g_R_fail (-6) (zg_i q9 0 28) q9).bind fun q10 =>
          some q10
        else
          if ¬ zg_l q9 0 18 = 0 then
            (g_R_fail (-6) (zg_i q9 0 28) q9).bind fun q11 =>
            some q11
          else
            if zg_i q9 0 19 = zg_i q9 0 20 then
              some (zp_i (zp_i q9 0 28 (zg_i q9 0 20)) 9 (zn 8) ((zg_i q9 9 (zn 8)) + 1))
            else
              (g_R_fail (-6) (zg_i q9 0 28) q9).bind fun q12 =>
              some q12
        else none
        else none
        else none
        else none
      else
        (g_R_fail (-6) (zg_i q4 0 28) q4).bind fun q13 =>
        some q13
      else none
theorem r_coded_eq (x1 x2 x3 : Int32) (D : zx_D) : g_R_coded x1 x2 x3 D =
  if (zg_i D 0 5) + x1 ≤ 400 then
    ((
      if x3 < 224 then
        some D
      else
        some (zp_i (zp_i D 0 35 1) 0 23 (zg_i D 0 5))
    ) : Option (zx_D)).bind fun q1 =>
    ((
      if zg_i q1 0 36 = 0 then
        some 0
      else
        if 192 ≤ x3 then
          some 0
        else
          some 1
    ) : Option (Int32)).bind fun q2 =>
    if q2 = 0 ∨ q2 = 1 then
    ((
      if x3 < 160 then
        some (zp_i q1 0 36 q2)
      else
        (g_R_anew (zp_i q1 0 36 q2)).bind fun q3 =>
        some q3
    ) : Option (zx_D)).bind fun q4 => r_cod x1 x2 q4
    else none
  else
    (g_R_fail (-5) (zg_i D 0 28) D).bind fun q14 =>
    some q14 := by
  unfold g_R_coded
  rfl
theorem c_litX {st : Nat} {D : zx_D} (q x1 x2 x3 : Int32) (hst : st < 12) (hs : zg_i D 7 2 = nI st) (hb : ¬ zg_i D 5 2 = 0) : ∃ y z, c_tk 1 q x1 x2 x3 D = some (zp_i (zp_i (zp_i (zp_i D 7 7 1) 7 8 y) 7 9 1) 7 2 z) := by
  obtain ⟨base, hbase⟩ : ∃ base, (2052 + (768 * ((zo_shl (x1 &&& ((zo_shl 1 (zg_i D 7 4)) - 1)) (zg_i D 7 3)) + (zo_ushr x2 (8 - (zg_i D 7 3))))) : Int32) = base := ⟨_, rfl⟩
  obtain ⟨al, hal⟩ : ∃ al, ((if zg_i (zp_i D 7 7 1) 7 2 < 7 then some 0 else some 1) : Option Int32) = some al := by
    by_cases t : zg_i (zp_i D 7 7 1) 7 2 < 7
    · exact ⟨0, by rw [if_pos t]⟩
    · exact ⟨1, by rw [if_neg t]⟩
  obtain ⟨v', y1, y2, y3, y4⟩ := x_litL (zp_i D 7 7 1) (zp_i D 0 22 1) base 0 x3 0 hb (by decide : ¬ (1 : Int32) = 0) 8 10000 10000 al 0 1 (by omega) (by omega) (by omega) (by decide) (by decide)
  have y3 : g_Mdl_codeLiteral_s_22 base x3 10000 al 1 7 (zp_i D 7 7 1) = some (nI v', zp_i D 7 7 1) := y3
  have eC : g_Mdl_codeLiteral_s base x3 (zp_i D 7 7 1) = some (nI v' - 256, zp_i D 7 7 1) := by
    rw [g_Mdl_codeLiteral_s, hal, o_sb, y3, o_sb]
  have s2 : zg_i (zp_i D 7 7 1) 7 2 = nI st := hs
  refine ⟨nI v' - 256, nI (zaf st), ?_⟩
  unfold c_tk
  rw [if_pos rfl, hbase, eC, o_sb]
  exact c_after hst s2 (fun y => zp_i (zp_i (zp_i (zp_i D 7 7 1) 7 8 (nI v' - 256)) 7 9 1) 7 2 y)
theorem c_broken {n m g b a f U G lc lp pb st k : Nat} {Z : Nat → Nat} {D R : zx_D} (h : zS n m g b m a D R) (hM : zM lc lp pb st Z D R) (hS : zDs D R) (hb : ¬ zg_i D 5 2 = 0) (h12 : zg_i D 9 12 = nI f) (hfg : f ≤ g) (h16 : zg_i D 9 16 = nI G) (hG1 : 1 ≤ G) (hG : G < 2 ^ 30) (hgU : g < U) (hU : U ≤ 400) : ∃ y z, g_Unp_giveCoded_71 (nI U) (k + 1) 0 D = some (4, 5, zp_i (zp_i (zp_i (zp_i (zp_i (zp_i D 7 7 1) 7 8 y) 7 9 1) 7 2 z) 12 4 (-6)) 12 5 (nI a)) := by
  have hv := h.v
  have e1 : ¬ zg_i D 9 16 ≤ 0 := by
    rw [h16]
    intro q
    have := (y_le (b := 0) (by omega) (by omega)).mp q
    omega
  have e2 : ¬ nI U ≤ zg_i D 10 1 := by
    rw [hv.gC]
    intro q
    have := (y_le (by omega) (by omega)).mp q
    omega
  have e3 : (zg_i D 10 1) - (zg_i D 9 12) = nI (g - f) := by rw [hv.gC, h12, y_sub hfg]
  obtain ⟨la, hlaC⟩ : ∃ la, ((if nI (g - f) ≤ 0 then some 0 else (g_Row_byteBack_10 (zg_i D 10 1) 1 D).bind fun q8 => some q8) : Option Int32) = some la := by
    by_cases t : f = g
    · refine ⟨0, ?_⟩
      rw [if_pos (show nI (g - f) ≤ 0 from (y_le (b := 0) (by omega) (by omega)).mpr (by omega))]
    · refine ⟨zg_i R 3 (g - 1), ?_⟩
      have := c_bb hv (d := 1) (by omega) (by omega) (by omega)
      rw [if_neg (show ¬ nI (g - f) ≤ 0 from fun q => by have := (y_le (b := 0) (by omega) (by omega)).mp q; omega), hv.gC, show (1 : Int64) = nL 1 from rfl, this, o_sb]
  obtain ⟨d, d1, d2, d3, d4⟩ := hS.d0
  have e6 : g_Mdl_distanceOf 0 D = some (nL d) := by
    rw [g_Mdl_distanceOf, if_pos (by decide), show zn 0 = 0 from rfl, d3]
  obtain ⟨mt, hmtC⟩ : ∃ mt, g_Row_byteBack_10 (zg_i D 10 1) (nL d) D = some mt := by
    rw [hv.gC]
    by_cases t : d ≤ g
    · exact ⟨_, c_bb hv d1 t (by omega)⟩
    · exact ⟨_, c_bb0 hv d1 d2 (by omega)⟩
  have hpb := hM.hp
  have hqC : nI (g - f) &&& ((zo_shl 1 (zg_i D 7 5)) - 1) = nI ((g - f) % 2 ^ pb) := by
    rw [hM.pbC, y_mask (by omega) hpb]
  have hkd := (c_kind (Q := (g - f) % 2 ^ pb) hM.stC).1 D (fun w => x_bitC _ _ hb)
  have hst := c_step (kd := 1) (by omega) (by omega) (x2 := la) (x3 := mt) hqC hkd
  obtain ⟨y, z, hyz⟩ := c_litX (nI ((g - f) % 2 ^ pb)) (nI (g - f)) la mt hM.hs hM.stC hb
  rw [hyz] at hst
  refine ⟨y, z, ?_⟩
  have b2 : ¬ zg_i (zp_i (zp_i (zp_i (zp_i D 7 7 1) 7 8 y) 7 9 1) 7 2 z) 5 2 = 0 := hb
  have a3 : zg_i (zp_i (zp_i (zp_i (zp_i D 7 7 1) 7 8 y) 7 9 1) 7 2 z) 12 3 = nI a := h.nC
  have hf : g_Cur_fail (-6) (nI a) (zp_i (zp_i (zp_i (zp_i D 7 7 1) 7 8 y) 7 9 1) 7 2 z) = some _ := c_fail1 _ _ h.c
  simp only [g_Unp_giveCoded_71, e1, e2, e3, hlaC, e6, hmtC, hst, b2, a3, hf, o_sb, ↓reduceIte, not_true_eq_false, not_false_eq_true]
