theorem y_and31 {c : Nat} (hc : c < 256) : nI c &&& 31 = nI (c % 32) := by
  have h4 : c % 32 < 32 := Nat.mod_lt _ (by omega)
  rw [show (31 : Int32) = nI 31 from rfl]
  apply Int32.toBitVec_inj.mp
  rw [Int32.toBitVec_and, y_ofNat_bv, y_ofNat_bv, y_ofNat_bv]
  apply BitVec.eq_of_toNat_eq
  rw [BitVec.toNat_and, BitVec.toNat_ofNat, BitVec.toNat_ofNat, BitVec.toNat_ofNat, Nat.mod_eq_of_lt (show c < 2 ^ 32 by omega), Nat.mod_eq_of_lt (show 31 < 2 ^ 32 by omega), Nat.mod_eq_of_lt (show c % 32 < 2 ^ 32 by omega), show 31 = 2 ^ 5 - 1 from rfl, Nat.and_two_pow_sub_one_eq_mod]
def c_hd2 (Q : zx_D) : Option zx_D :=
  (g_Cur_readTwo Q).bind fun q5 =>
        if zg_i q5.2 9 15 < 128 then
          some (zp_i q5.2 9 16 (q5.1 + 1))
        else
          (g_Cur_readTwo (zp_i (zp_i q5.2 9 16 (q5.1 + 1)) 9 16 ((q5.1 + 1) + (zo_shl ((zg_i q5.2 9 15) &&& 31) 16)))).bind fun q6 =>
          (g_Unp_readProperties (zp_i q6.2 9 17 (q6.1 + 1))).bind fun q7 =>
          some q7
theorem c_headE {n m g b a c : Nat} {D R : zx_D} (h : zS n m g b m a D R) (ha : a < m) (hC : zg_i D 4 a = nI c) (hc0 : c ≠ 0) (hc : c < 256) (hal : g_Unp_isAllowed (zp_i D 9 15 (nI c)) = some 1) :
    ((c = 1 ∨ 224 ≤ c) → g_Unp_readChunkHead D = c_hd2 (zp_i (zp_i (zp_i (zp_i (zp_i D 9 15 (nI c)) 12 3 (nI (a + 1))) 9 13 0) 9 12 (nI g)) 9 14 1)) ∧
    (¬ (c = 1 ∨ 224 ≤ c) → g_Unp_readChunkHead D = c_hd2 (zp_i (zp_i (zp_i D 9 15 (nI c)) 12 3 (nI (a + 1))) 9 13 0)) := by
  have hm := h.v.hm
  have z1 : ¬ (1 : Int32) = 0 := by decide
  have hh := c_has1 h (k := 1) (by omega)
  have hh : g_Cur_has 1 D = some (1, D) := hh
  have zi0 : zk_in (nI a) 640 = true := y_in (by omega) (by omega)
  have zn0 : zn (nI a) = a := y_zn (by omega)
  have n0 : ¬ nI c = 0 := fun q => hc0 ((y_eq (b := 0) (by omega) (by omega)).mp q)
  have l1 : (nI c = 1) = (c = 1) := propext (y_eq (b := 1) (by omega) (by omega))
  have l224 : (nI c < 224) = (c < 224) := propext (y_lt (b := 224) (by omega) (by omega))
  have g15 : zg_i (zp_i (zp_i (zp_i D 9 15 (nI c)) 12 3 (nI (a + 1))) 9 13 0) 9 15 = nI c := rfl
  constructor
  · intro t
    have e : g_Unp_empties (zp_i (zp_i (zp_i D 9 15 (nI c)) 12 3 (nI (a + 1))) 9 13 0) = some 1 := by
      rw [g_Unp_empties, g15]
      simp only [l1, l224]
      by_cases u : c = 1
      · rw [if_pos u]
      · rw [if_neg u, if_neg (by omega)]
    simp only [g_Unp_readChunkHead, hh, z1, h.nC, zi0, zn0, hC, hal, n0, y_1, e, h.v.gC, o_sb, ↓reduceIte, not_false_eq_true]
    rfl
  · intro t
    have e : g_Unp_empties (zp_i (zp_i (zp_i D 9 15 (nI c)) 12 3 (nI (a + 1))) 9 13 0) = some 0 := by
      rw [g_Unp_empties, g15]
      simp only [l1, l224]
      rw [if_neg (by omega), if_pos (by omega)]
    simp only [g_Unp_readChunkHead, hh, z1, h.nC, zi0, zn0, hC, hal, n0, y_1, e, o_sb, ↓reduceIte, not_false_eq_true]
    rfl
theorem c_turn {D D5 : zx_D} {x1 : Int32} {k i r1 r2 : Nat} (hi : i < 640) (hs : zg_i D 12 4 = 0) (h5 : g_Unp_readChunkHead D = some D5) :
    (zg_i D5 9 15 = 0 → g_Unp_readBlock_46 x1 (k + 1) (nI i) r1 r2 D = (g_Unp_closeBlock x1 D5).bind fun q6 => some (r1, r2, q6)) ∧
    (¬ zg_i D5 12 4 = 0 → g_Unp_readBlock_46 x1 (k + 1) (nI i) r1 r2 D = some (r1, r2, D5)) ∧
    (∀ D6, ¬ zg_i D5 9 15 = 0 → zg_i D5 12 4 = 0 → zg_i D5 9 15 < 128 → g_Unp_givePlain D5 = some D6 → g_Unp_readBlock_46 x1 (k + 1) (nI i) r1 r2 D = g_Unp_readBlock_46 x1 k (nI (i + 1)) r1 r2 D6) ∧
    (∀ s1 s2 D6, ¬ zg_i D5 9 15 = 0 → zg_i D5 12 4 = 0 → ¬ zg_i D5 9 15 < 128 → g_Unp_giveCoded r1 r2 D5 = some (s1, s2, D6) → g_Unp_readBlock_46 x1 (k + 1) (nI i) r1 r2 D = g_Unp_readBlock_46 x1 k (nI (i + 1)) s1 s2 D6) := by
  have z1 : ¬ (1 : Int32) = 0 := by decide
  have e0 : ¬ (640 : Int32) ≤ nI i := fun q => by have := (y_le (a := 640) (by omega) (by omega)).mp q; omega
  refine ⟨fun t => ?_, fun t => ?_, fun D6 t1 t2 t3 t4 => ?_, fun s1 s2 D6 t1 t2 t3 t4 => ?_⟩
  · simp only [g_Unp_readBlock_46, e0, c_snd1 hs, z1, h5, t, o_sb, ↓reduceIte]
  · by_cases u : zg_i D5 9 15 = 0
    · simp only [g_Unp_readBlock_46, e0, c_snd1 hs, z1, h5, u, c_clo0 x1 t, o_sb, ↓reduceIte]
    · simp only [g_Unp_readBlock_46, e0, c_snd1 hs, z1, h5, u, c_snd0 t, c_clo0 x1 t, o_sb, ↓reduceIte, not_true_eq_false]
  · simp only [g_Unp_readBlock_46, e0, c_snd1 hs, z1, h5, t1, c_snd1 t2, t3, t4, y_1, o_sb, ↓reduceIte, not_false_eq_true]
  · simp only [g_Unp_readBlock_46, e0, c_snd1 hs, z1, h5, t1, c_snd1 t2, t3, t4, y_1, o_sb, ↓reduceIte, not_false_eq_true]
def zTn (n m g b a : Nat) (x1 : Int32) (k i r1 r2 : Nat) (D R : zx_D) : Prop :=
  (∃ D1 R1, a + 1 ≤ m ∧ g_Unp_readBlock_46 x1 (k + 1) (nI i) r1 r2 D = ((g_Unp_closeBlock x1 D1).bind fun q6 => some (r1, r2, q6)) ∧ g_R_chunk R = some (0, R1) ∧ zS n m g b m (a + 1) D1 R1 ∧ zY D D1 R R1) ∨
  (∃ g' s1 s2 D1 R1 q, g_Unp_readBlock_46 x1 (k + 1) (nI i) r1 r2 D = some (s1, s2, D1) ∧ g_R_chunk R = some (q, R1) ∧ zF n m g' b D1 R1) ∨
  (∃ g' a' f' s1 s2 D1 R1, g_Unp_readBlock_46 x1 (k + 1) (nI i) r1 r2 D = g_Unp_readBlock_46 x1 k (nI (i + 1)) s1 s2 D1 ∧ g_R_chunk R = some (1, R1) ∧ zC n m g' b a' f' D1 R1 ∧ a + 1 ≤ a' ∧ g ≤ g' ∧ zY D D1 R R1)
theorem c_prop0 {D : zx_D} (h : ¬ zg_i D 12 4 = 0) : g_Unp_readProperties D = some D := by
  have e87 : g_Unp_readProperties_87 D = some D := by
    rw [g_Unp_readProperties_87]
    by_cases t : zg_i D 9 15 < 160
    · rw [if_pos t]
    · rw [if_neg t, c_snd0 h, o_sb, if_pos rfl]
  rw [g_Unp_readProperties]
  by_cases t : zg_i D 9 15 < 192
  · rw [if_pos t, e87]
  · rw [if_neg t, c_has0 _ h, o_sb]
    exact (if_pos rfl).trans e87
theorem s_chF {n m g b a c : Nat} {D R Q : zx_D} {x1 e2 : Int32} {k i r1 r2 : Nat} (hi : i < 640) (hs : zS n m g b m a D R) (hc1 : 1 ≤ c) (hc : c < 256) (hQ : g_Unp_readChunkHead D = c_hd2 Q) (hR : g_R_chunk R = g_R_chunk_98 (nI c) e2 R) {D' R' : zx_D} (t1 : g_Cur_readTwo Q = some (0, D')) (t2 : ∀ t, g_R_length t (zp_i R 0 28 (nI (a + 1))) = some (0, R')) (t3 : zF n m g b D' R') : zTn n m g b a x1 k i r1 r2 D R := by
  have hv := t3.v
  have hC : ∃ D5, c_hd2 Q = some D5 ∧ zF n m g b D5 R' := by
    unfold c_hd2
    rw [t1, o_sb]
    show ∃ D5, (if zg_i D' 9 15 < 128 then some (zp_i D' 9 16 (0 + 1)) else (g_Cur_readTwo (zp_i (zp_i D' 9 16 (0 + 1)) 9 16 ((0 + 1) + (zo_shl ((zg_i D' 9 15) &&& 31) 16)))).bind fun q6 => (g_Unp_readProperties (zp_i q6.2 9 17 (q6.1 + 1))).bind fun q7 => some q7) = some D5 ∧ zF n m g b D5 R'
    by_cases t : zg_i D' 9 15 < 128
    · rw [if_pos t]
      exact ⟨_, rfl, ⟨⟨hv.hn, hv.hm, hv.pC, hv.pR, hv.pB, hv.kC, hv.kR, hv.kB, hv.sz, hv.fa, hv.wh, hv.wa, hv.lo, hv.kr, hv.kc, hv.c0, hv.cs, hv.en, hv.hg, hv.gC, hv.gR, hv.gB, hv.bR, hv.bC, hv.bS⟩, t3.f, t3.nx⟩⟩
    · rw [if_neg t]
      have f1 : ¬ zg_i (zp_i (zp_i D' 9 16 (0 + 1)) 9 16 ((0 + 1) + (zo_shl ((zg_i D' 9 15) &&& 31) 16))) 12 4 = 0 := t3.c
      rw [c_two0 f1, o_sb]
      have f2 : ¬ zg_i (zp_i (zp_i (zp_i D' 9 16 (0 + 1)) 9 16 ((0 + 1) + (zo_shl ((zg_i D' 9 15) &&& 31) 16))) 9 17 (0 + 1)) 12 4 = 0 := t3.c
      rw [c_prop0 f2, o_sb]
      exact ⟨_, rfl, ⟨⟨hv.hn, hv.hm, hv.pC, hv.pR, hv.pB, hv.kC, hv.kR, hv.kB, hv.sz, hv.fa, hv.wh, hv.wa, hv.lo, hv.kr, hv.kc, hv.c0, hv.cs, hv.en, hv.hg, hv.gC, hv.gR, hv.gB, hv.bR, hv.bC, hv.bS⟩, t3.f, t3.nx⟩⟩
  obtain ⟨D5, h5, hF⟩ := hC
  obtain ⟨T1, T2, T3, T4⟩ := c_turn (x1 := x1) (k := k) (r1 := r1) (r2 := r2) hi hs.c (hQ.trans h5)
  refine Or.inr (Or.inl ⟨g, r1, r2, D5, R', 1, T2 hF.c, ?_, hF⟩)
  have n0 : ¬ nI c = 0 := fun q => by have := (y_eq (b := 0) (by omega) (by omega)).mp q; omega
  have e28 : zg_i R 0 28 + 1 = nI (a + 1) := by rw [hs.nR, y_1]
  have fr : ¬ zg_i R' 0 29 = 0 := t3.f
  obtain ⟨q3, hq3⟩ : ∃ q3, ((if 128 ≤ nI c then some (nI c &&& 31) else some 0) : Option Int32) = some q3 := by
    by_cases t : (128 : Int32) ≤ nI c
    · exact ⟨_, if_pos t⟩
    · exact ⟨_, if_neg t⟩
  rw [hR, g_R_chunk_98, if_pos n0, hq3, o_sb, e28, t2 q3, o_sb]
  by_cases t : (128 : Int32) ≤ nI c
  · have r0 := r_len0 0 fr
    simp only [t, r0, fr, o_sb, ↓reduceIte, not_false_eq_true]
    by_cases u : nI c < 192
    · simp only [u, fr, o_sb, ↓reduceIte, not_false_eq_true]
    · simp only [u, fr, o_sb, ↓reduceIte, not_false_eq_true]
  · simp only [t, fr, ↓reduceIte, not_false_eq_true]
theorem s_chP {n m g b a f c : Nat} {D R Q : zx_D} {x1 e2 : Int32} {k i r1 r2 : Nat} (hk : 1 ≤ k) (hi : i < 640) (hs : zS n m g b m a D R) (hc1 : 1 ≤ c) (hc2 : c ≤ 2) (hQ : g_Unp_readChunkHead D = c_hd2 Q) (hR : g_R_chunk R = g_R_chunk_98 (nI c) e2 R) (h : zS n m g b m (a + 1) Q (zp_i R 0 28 (nI (a + 1)))) (h15 : zg_i Q 9 15 = nI c) (h13 : zg_i Q 9 13 = 0) (hy : zY D Q R R)
    (hx : (¬ e2 = 0 ∧ zg_i Q 9 12 = nI g ∧ zg_i Q 9 14 = 1 ∧ f = g) ∨ (e2 = 0 ∧ zg_i R 0 35 = 1 ∧ f ≤ g ∧ zg_i Q 9 12 = nI f ∧ zg_i R 0 23 = nI f ∧ ((zg_i Q 9 14 = 1 ∧ zg_i R 0 36 = 1) ∨ (zg_i Q 9 14 = 0 ∧ zg_i R 0 36 = 0 ∧ zMd g f Q R)))) : zTn n m g b a x1 k i r1 r2 D R := by
  obtain ⟨k, rfl⟩ : ∃ j, k = j + 1 := ⟨k - 1, by omega⟩
  have n0 : ¬ nI c = 0 := fun q => by have := (y_eq (b := 0) (by omega) (by omega)).mp q; omega
  have l128 : ¬ (128 : Int32) ≤ nI c := fun q => by have := (y_le (a := 128) (by omega) (by omega)).mp q; omega
  have l128' : nI c < 128 := (y_lt (b := 128) (by omega) (by omega)).mpr (by omega)
  have z1 : ¬ (1 : Int32) = 0 := by decide
  have hv := h.v
  rcases s_two h with ⟨x, y, hm3, hx1, hy1, t1, t2⟩ | ⟨D', R', t1, t2, t3⟩
  · have t2 := t2 0 (by omega)
    have t2 : g_R_length 0 (zp_i R 0 28 (nI (a + 1))) = some (nI (0 * 65536 + x * 256 + y + 1), zp_i (zp_i R 0 28 (nI (a + 1))) 0 28 (nI (a + 1 + 2))) := t2
    obtain ⟨G, hG⟩ : ∃ G, G = x * 256 + y + 1 := ⟨_, rfl⟩
    have hGR : 0 * 65536 + x * 256 + y + 1 = G := by omega
    rw [hGR] at t2
    have hGC : nI (x * 256 + y) + 1 = nI G := by rw [y_1, hG]
    have g15 : zg_i (zp_i Q 12 3 (nI (a + 1 + 2))) 9 15 = nI c := h15
    have h5 : g_Unp_readChunkHead D = some (zp_i (zp_i Q 12 3 (nI (a + 1 + 2))) 9 16 (nI G)) := by
      rw [hQ, c_hd2, t1]
      simp only [o_sb, g15, l128', hGC, ↓reduceIte]
    have hS : zS n m g b m (a + 1 + 2) (zp_i (zp_i Q 12 3 (nI (a + 1 + 2))) 9 16 (nI G)) (zp_i (zp_i R 0 28 (nI (a + 1))) 0 28 (nI (a + 1 + 2))) := ⟨⟨hv.hn, hv.hm, hv.pC, hv.pR, hv.pB, hv.kC, hv.kR, hv.kB, hv.sz, hv.fa, hv.wh, hv.wa, hv.lo, hv.kr, hv.kc, hv.c0, hv.cs, hv.en, hv.hg, hv.gC, hv.gR, hv.gB, hv.bR, hv.bC, hv.bS⟩, h.f, rfl, rfl, h.eC, by omega, h.em⟩
    have hx' : (¬ e2 = 0 ∧ zg_i (zp_i (zp_i Q 12 3 (nI (a + 1 + 2))) 9 16 (nI G)) 9 12 = nI g ∧ zg_i (zp_i (zp_i Q 12 3 (nI (a + 1 + 2))) 9 16 (nI G)) 9 14 = 1 ∧ f = g) ∨ (e2 = 0 ∧ zg_i (zp_i (zp_i R 0 28 (nI (a + 1))) 0 28 (nI (a + 1 + 2))) 0 35 = 1 ∧ f ≤ g ∧ zg_i (zp_i (zp_i Q 12 3 (nI (a + 1 + 2))) 9 16 (nI G)) 9 12 = nI f ∧ zg_i (zp_i (zp_i R 0 28 (nI (a + 1))) 0 28 (nI (a + 1 + 2))) 0 23 = nI f ∧ ((zg_i (zp_i (zp_i Q 12 3 (nI (a + 1 + 2))) 9 16 (nI G)) 9 14 = 1 ∧ zg_i (zp_i (zp_i R 0 28 (nI (a + 1))) 0 28 (nI (a + 1 + 2))) 0 36 = 1) ∨ (zg_i (zp_i (zp_i Q 12 3 (nI (a + 1 + 2))) 9 16 (nI G)) 9 14 = 0 ∧ zg_i (zp_i (zp_i R 0 28 (nI (a + 1))) 0 28 (nI (a + 1 + 2))) 0 36 = 0 ∧ zMd g f (zp_i (zp_i Q 12 3 (nI (a + 1 + 2))) 9 16 (nI G)) (zp_i (zp_i R 0 28 (nI (a + 1))) 0 28 (nI (a + 1 + 2)))))) := by
      rcases hx with q | ⟨q1, q2, q3, q4, q5, q6⟩
      · exact Or.inl q
      · refine Or.inr ⟨q1, q2, q3, q4, q5, ?_⟩
        rcases q6 with q | ⟨u1, u2, u3⟩
        · exact Or.inl q
        · refine Or.inr ⟨u1, u2, u3.fr (Nat.le_refl _) (fun k => rfl) (fun k _ _ => rfl) (fun k => rfl) (fun k k1 k2 => ?_) (fun k => rfl) (fun k _ _ => rfl)⟩
          rw [y_gi, if_neg (by omega), y_gi, if_neg (by omega)]
    have h98 : ∀ o : Option (Int32 × zx_D), g_R_has (nI G) (zp_i (zp_i R 0 28 (nI (a + 1))) 0 28 (nI (a + 1 + 2))) = o → g_R_chunk R = o.bind fun q11 => if q11.1 = 0 then some (1, q11.2) else (g_R_plainChunk (nI G) e2 q11.2).bind fun q12 => some (1, q12) := by
      intro o ho
      have f2 : zg_i (zp_i (zp_i R 0 28 (nI (a + 1))) 0 28 (nI (a + 1 + 2))) 0 29 = 0 := h.f
      have e28 : zg_i R 0 28 + 1 = nI (a + 1) := by rw [hs.nR, y_1]
      rw [hR, g_R_chunk_98, if_pos n0]
      simp only [l128, e28, t2, f2, ho, o_sb, ↓reduceIte, not_true_eq_false]
    obtain ⟨T1, T2, T3, T4⟩ := c_turn (x1 := x1) (k := k + 1) (r1 := r1) (r2 := r2) hi hs.c h5
    have n15 : ¬ zg_i (zp_i (zp_i Q 12 3 (nI (a + 1 + 2))) 9 16 (nI G)) 9 15 = 0 := fun q => n0 (h15.symm.trans q)
    have s15 : zg_i (zp_i (zp_i Q 12 3 (nI (a + 1 + 2))) 9 16 (nI G)) 9 15 < 128 := by
      have e : zg_i (zp_i (zp_i Q 12 3 (nI (a + 1 + 2))) 9 16 (nI G)) 9 15 = nI c := h15
      rw [e]
      exact l128'
    have yy : zY D (zp_i (zp_i Q 12 3 (nI (a + 1 + 2))) 9 16 (nI G)) R (zp_i (zp_i R 0 28 (nI (a + 1))) 0 28 (nI (a + 1 + 2))) := hy.trans ⟨fun k hk => by rcases hk with rfl | rfl | rfl <;> rfl, fun k => rfl, rfl⟩
    rcases s_plain hS (by omega) (by omega) rfl e2 h13 hx' with ⟨D', R', u1, u2, u3, u4, u5, u6⟩ | ⟨D', R', u2, u3, u4, u5⟩ | ⟨D', R', u2, u3, u4⟩
    · refine Or.inr (Or.inr ⟨g + G, a + 1 + 2 + G, f, r1, r2, D', R', T3 D' n15 hS.c s15 u2, ?_, u5, by omega, by omega, yy.trans u6⟩)
      rw [h98 _ u3]
      simp only [o_sb, z1, u4, ↓reduceIte]
    · refine Or.inr (Or.inl ⟨g, r1, r2, D', R', 1, ?_, ?_, u5⟩)
      · rw [T3 D' n15 hS.c s15 u2]
        exact c_it0 _ _ _ _ _ u5.c
      · rw [h98 _ u3]
        simp only [o_sb, z1, u4, ↓reduceIte]
    · refine Or.inr (Or.inl ⟨g, r1, r2, D', R', 1, ?_, ?_, u4⟩)
      · rw [T3 D' n15 hS.c s15 u2]
        exact c_it0 _ _ _ _ _ u4.c
      · rw [h98 _ u3]
        simp only [o_sb, ↓reduceIte]
  · exact s_chF hi hs hc1 (by omega) hQ hR t1 t2 t3
