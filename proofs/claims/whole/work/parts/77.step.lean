theorem zWj_8 (Z : Nat → Nat) : zWj Z 8 1 = Z 1205 + Z 1207 + Z 1211 + Z 1219 + Z 1235 + Z 1267 + Z 1331 + Z 1459 := by
  have e : zWj Z 8 1 = Z 1205 + (Z 1207 + (Z 1211 + (Z 1219 + (Z 1235 + (Z 1267 + (Z 1331 + (Z 1459 + 0))))))) := rfl
  omega
theorem d_lenB {n m g b e lc lp pb st r c x N S E s : Nat} {Z : Nat → Nat} {D R : zx_D} (q q' : Int32) (h : zA n m g b r c x e lc lp pb st Z D R) (hB : zBk N S E s r c) (hN : N + 10 ≤ 31) (hS : S + zL10 Z ≤ 527) (hE : E ≤ 26) :
    (∃ r' c' x' s' D' R', g_Mdl_codeLength_s 946 q D = some (nI 273, D') ∧ g_R_lengthTaken 7092 q' R = some (nI 273, R') ∧ zA n m g b r' c' x' e lc lp pb st Z D' R' ∧ zQ D D' R R' ∧ zBk (N + 10) (S + zL10 Z) E s' r' c') ∨
    (∃ t D' R', 2 ≤ t ∧ t ≤ 273 ∧ g_Mdl_codeLength_s 946 q D = some (nI t, D') ∧ g_R_lengthTaken 7092 q' R = some (nI t, R') ∧ zX n m g b D' R' ∧ zQ D D' R R') := by
  have z4 : ¬ (1 : Int32) = 0 := by decide
  have w1 : ∀ E : zx_D, ∃ w, ((if 10 ≤ zg_i E 7 9 then some 1 else some 0) : Option Int32) = some w := fun E => by
    by_cases t : (10 : Int32) ≤ zg_i E 7 9
    · exact ⟨1, by rw [if_pos t]⟩
    · exact ⟨0, by rw [if_neg t]⟩
  have w2 : ∀ E : zx_D, ∃ w, ((if 18 ≤ zg_i E 7 9 then some 1 else some 0) : Option Int32) = some w := fun E => by
    by_cases t : (18 : Int32) ≤ zg_i E 7 9
    · exact ⟨1, by rw [if_pos t]⟩
    · exact ⟨0, by rw [if_neg t]⟩
  have pw : 0 < 2 ^ (lc + lp) := Nat.two_pow_pos _
  have e2 : ∀ t, 2 + nI t = nI (2 + t) := fun t => y_add 2 t
  have e10 : ∀ t, 10 + nI t = nI (10 + t) := fun t => y_add 10 t
  have e18 : ∀ t, 18 + nI t = nI (18 + t) := fun t => y_add 18 t
  have i1 : (946 : Int32) + 1 = nI 947 := rfl
  have i2 : (7092 : Int32) + 1 = nI (zf 947) := rfl
  have i3 : (946 : Int32) + 258 = nI 1204 := rfl
  have i4 : (7092 : Int32) + 258 = nI 7350 := rfl
  obtain ⟨wa, hwa⟩ := w1 D
  have h8 := zWj_8 Z
  unfold zL10 at hS ⊢
  rcases d_bitB h hB (by omega) (by omega) hE (k := 946) (by omega) wa with ⟨r1, c1, x1, s1, D1, R1, t1, t2, t3, t4, t5⟩ | ⟨D1, R1, t1, t2, t3, t4⟩
  · have t1 : g_Src_codeBit 946 wa D = some (1, D1) := t1
    have t2 : g_R_bit 7092 R = some (1, R1) := t2
    obtain ⟨wb, hwb⟩ := w2 D1
    rcases d_bitB t3 t5 (by omega) (by omega) hE (k := 947) (by omega) wb with ⟨r2, c2, x2, s2, D2, R2, u1, u2, u3, u4, u5⟩ | ⟨D2, R2, u1, u2, u3, u4⟩
    · rcases d_treeBL 8 (zg_i D2 7 9 - 18) hE 8 10000 10000 1 r2 c2 x2 (N + 1 + 1) (S + Z 946 + Z 947) s2 D2 R2 (by omega) (by omega) (by omega) rfl u3 u5 (by omega) (by omega) with ⟨r', c', x', s', D', R', v1, v2, v3, v4, v5⟩ | ⟨v', D', R', q1, q2, v1, v2, v3, v4⟩
      · left
        have v1 : g_Mdl_codeTree_s_8 (nI 1204) 8 (zg_i D2 7 9 - 18) 10000 1 (8 - 1) D2 = some (nI 511, D') := v1
        have v2 : g_R_tree_5 (nI 7350) 8 10000 1 0 R2 = some (nI 511, R') := v2
        have e1 : nI 511 - zo_shl 1 8 = nI 255 := rfl
        have f1 : g_Mdl_codeTree_s (nI 1204) 8 (zg_i D2 7 9 - 18) D2 = some (nI 255, D') := by
          rw [g_Mdl_codeTree_s, v1]
          simp only [o_sb, e1]
        have f2 : g_R_tree (nI 7350) 8 R2 = some (nI 255, R') := by
          rw [g_R_tree, v2]
          simp only [o_sb, e1]
        refine ⟨r', c', x', s', D', R', ?_, ?_, v3, t4.trans (u4.trans v4), ?_⟩
        · simp only [g_Mdl_codeLength_s, hwa, t1, z4, hwb, i1, u1, i3, f1, e18, o_sb, ↓reduceIte, not_true_eq_false, not_false_eq_true]
        · simp only [g_R_lengthTaken, t2, z4, i2, u2, i4, f2, e18, o_sb, ↓reduceIte, not_true_eq_false, not_false_eq_true]
        · rw [h8] at v5
          rw [show N + 10 = N + 1 + 1 + 8 by omega, show S + (Z 946 + Z 947 + (Z 1205 + Z 1207 + Z 1211 + Z 1219 + Z 1235 + Z 1267 + Z 1331 + Z 1459)) = S + Z 946 + Z 947 + (Z 1205 + Z 1207 + Z 1211 + Z 1219 + Z 1235 + Z 1267 + Z 1331 + Z 1459) by omega]
          exact v5
      · right
        have v1 : g_Mdl_codeTree_s_8 (nI 1204) 8 (zg_i D2 7 9 - 18) 10000 1 (8 - 1) D2 = some (nI v', D') := v1
        have v2 : g_R_tree_5 (nI 7350) 8 10000 1 0 R2 = some (nI v', R') := v2
        have e1 : nI v' - zo_shl 1 8 = nI (v' - 256) := y_sub (a := v') (b := 256) q2
        have f1 : g_Mdl_codeTree_s (nI 1204) 8 (zg_i D2 7 9 - 18) D2 = some (nI (v' - 256), D') := by
          rw [g_Mdl_codeTree_s, v1]
          simp only [o_sb, e1]
        have f2 : g_R_tree (nI 7350) 8 R2 = some (nI (v' - 256), R') := by
          rw [g_R_tree, v2]
          simp only [o_sb, e1]
        refine ⟨18 + (v' - 256), D', R', by omega, by omega, ?_, ?_, v3, t4.trans (u4.trans v4)⟩
        · simp only [g_Mdl_codeLength_s, hwa, t1, z4, hwb, i1, u1, i3, f1, e18, o_sb, ↓reduceIte, not_true_eq_false, not_false_eq_true]
        · simp only [g_R_lengthTaken, t2, z4, i2, u2, i4, f2, e18, o_sb, ↓reduceIte, not_true_eq_false, not_false_eq_true]
    · right
      obtain ⟨t, v1, v2, v3⟩ := x_tree D2 R2 (946 + 130 + 8 * q) (7092 + 130 + 8 * q') 3 (zg_i D2 7 9 - 10) (by omega) u3.bC u3.bR
      have v2 : g_Mdl_codeTree_s (946 + 130 + 8 * q) 3 (zg_i D2 7 9 - 10) D2 = _ := v2
      have v3 : g_R_tree (7092 + 130 + 8 * q') 3 R2 = _ := v3
      refine ⟨10 + t, D2, R2, by omega, by omega, ?_, ?_, u3, t4.trans u4⟩
      · simp only [g_Mdl_codeLength_s, hwa, t1, z4, hwb, i1, u1, v2, e10, o_sb, ↓reduceIte, not_true_eq_false, not_false_eq_true]
      · simp only [g_R_lengthTaken, t2, z4, i2, u2, v3, e10, o_sb, ↓reduceIte, not_true_eq_false, not_false_eq_true]
  · right
    have t1 : g_Src_codeBit 946 wa D = some (0, D1) := t1
    have t2 : g_R_bit 7092 R = some (0, R1) := t2
    obtain ⟨t, v1, v2, v3⟩ := x_tree D1 R1 (946 + 2 + 8 * q) (7092 + 2 + 8 * q') 3 (zg_i D1 7 9 - 2) (by omega) t3.bC t3.bR
    have v2 : g_Mdl_codeTree_s (946 + 2 + 8 * q) 3 (zg_i D1 7 9 - 2) D1 = _ := v2
    have v3 : g_R_tree (7092 + 2 + 8 * q') 3 R1 = _ := v3
    refine ⟨2 + t, D1, R1, by omega, by omega, ?_, ?_, t3, t4⟩
    · simp only [g_Mdl_codeLength_s, hwa, t1, v2, e2, o_sb, ↓reduceIte, not_true_eq_false, not_false_eq_true]
    · simp only [g_R_lengthTaken, t2, v3, e2, o_sb, ↓reduceIte, not_true_eq_false, not_false_eq_true]
abbrev zW (D D' R R' : zx_D) : Prop := Nonempty ((∀ k, zg_i D' 9 k = zg_i D 9 k) ∧ (∀ k, zg_i D' 12 k = zg_i D 12 k) ∧ (∀ k, zg_l D' 9 k = zg_l D 9 k) ∧ (∀ k, k ≠ 5 → k ≠ 12 → k ≠ 19 → k ≠ 21 → k ≠ 22 → zg_i R' 0 k = zg_i R 0 k))
theorem zW.c {D D' R R' : zx_D} (h : zW D D' R R') : ∀ k, zg_i D' 9 k = zg_i D 9 k := h.elim fun q => q.1
theorem zW.cu {D D' R R' : zx_D} (h : zW D D' R R') : ∀ k, zg_i D' 12 k = zg_i D 12 k := h.elim fun q => q.2.1
theorem zW.cl {D D' R R' : zx_D} (h : zW D D' R R') : ∀ k, zg_l D' 9 k = zg_l D 9 k := h.elim fun q => q.2.2.1
theorem zW.r {D D' R R' : zx_D} (h : zW D D' R R') : ∀ k, k ≠ 5 → k ≠ 12 → k ≠ 19 → k ≠ 21 → k ≠ 22 → zg_i R' 0 k = zg_i R 0 k := h.elim fun q => q.2.2.2
theorem zW_rfl {D R : zx_D} : zW D D R R := ⟨fun _ => Eq.refl _, fun _ => Eq.refl _, fun _ => Eq.refl _, fun _ _ _ _ _ _ => Eq.refl _⟩
theorem zW.trans {D D' D'' R R' R'' : zx_D} (h1 : zW D D' R R') (h2 : zW D' D'' R' R'') : zW D D'' R R'' :=
  ⟨fun k => (h2.c k).trans (h1.c k), fun k => (h2.cu k).trans (h1.cu k), fun k => (h2.cl k).trans (h1.cl k), fun k a1 a2 a3 a4 a5 => (h2.r k a1 a2 a3 a4 a5).trans (h1.r k a1 a2 a3 a4 a5)⟩
theorem zQ.w {D D' R R' : zx_D} (h : zQ D D' R R') : zW D D' R R' := ⟨fun k => h.c 9 k (by omega) (by omega), fun k => h.c 12 k (by omega) (by omega), fun k => h.cl 9 k (by omega), fun k _ _ a3 _ a5 => h.r k a3 a5⟩
theorem zV_md {n m g b : Nat} {D R D' R' : zx_D} (h : zV n m g b D R) (hc : ∀ p k, p ≠ 7 → zg_i D' p k = zg_i D p k) (hl : ∀ p k, p ≠ 7 → p ≠ 8 → zg_l D' p k = zg_l D p k) (hr : ∀ p k, ¬ (p = 0 ∧ k = 12) → zg_i R' p k = zg_i R p k) (hrl : ∀ k, k < 13 ∨ 16 < k → zg_l R' 0 k = zg_l R 0 k) : zV n m g b D' R' := by
  refine ⟨h.hn, h.hm, ?_, ?_, ?_, ?_, ?_, ?_, ?_, ?_, ?_, ?_, ?_, ?_, ?_, ?_, ?_, ?_, h.hg, ?_, ?_, ?_, ?_, ?_, ?_⟩
  · rw [hc _ _ (by omega)]; exact h.pC
  · rw [hr _ _ (by omega)]; exact h.pR
  · intro i hi; rw [hc _ _ (by omega), hr _ _ (by omega)]; exact h.pB i hi
  · rw [hc _ _ (by omega)]; exact h.kC
  · rw [hr _ _ (by omega)]; exact h.kR
  · intro i hi; rw [hc _ _ (by omega), hr _ _ (by omega)]; exact h.kB i hi
  · rw [hc _ _ (by omega)]; exact h.sz
  · rw [hc _ _ (by omega), hr _ _ (by omega)]; exact h.fa
  · rw [hc _ _ (by omega), hr _ _ (by omega)]; exact h.wh
  · rw [hc _ _ (by omega), hr _ _ (by omega)]; exact h.wa
  · rw [hr _ _ (by omega), hr _ _ (by omega)]; exact h.lo
  · rw [hl _ _ (by omega) (by omega), hrl _ (by omega)]; exact h.kr
  · rw [hl _ _ (by omega) (by omega), hrl _ (by omega)]; exact h.kc
  · rw [hc _ _ (by omega), hr _ _ (by omega)]; exact h.c0
  · intro i h1 h2; rw [hc _ _ (by omega), hr _ _ (by omega)]; exact h.cs i h1 h2
  · intro i h1 h2; rw [hc _ _ (by omega)]; exact h.en i h1 h2
  · rw [hc _ _ (by omega)]; exact h.gC
  · rw [hr _ _ (by omega)]; exact h.gR
  · intro i hi; rw [hc _ _ (by omega), hr _ _ (by omega)]; exact h.gB i hi
  · rw [hr _ _ (by omega)]; exact h.bR
  · rw [hc _ _ (by omega)]; exact h.bC
  · intro i hi; rw [hl _ _ (by omega) (by omega), hl _ _ (by omega) (by omega), hr _ _ (by omega), hr _ _ (by omega)]; exact h.bS i hi
theorem zA_md {n m g b r c x e lc lp pb st st' : Nat} {Z : Nat → Nat} {D R D' R' : zx_D} (h : zA n m g b r c x e lc lp pb st Z D R) (hc : ∀ p k, p ≠ 7 → zg_i D' p k = zg_i D p k) (hl : ∀ p k, p ≠ 7 → p ≠ 8 → zg_l D' p k = zg_l D p k) (hr : ∀ p k, ¬ (p = 0 ∧ k = 12) → zg_i R' p k = zg_i R p k) (hrl : ∀ k, k < 13 ∨ 16 < k → zg_l R' 0 k = zg_l R 0 k) (hM : zM lc lp pb st' Z D' R') : zA n m g b r c x e lc lp pb st' Z D' R' := by
  refine ⟨zV_md h.v hc hl hr hrl, ?_, ?_, h.hr1, h.hr2, ?_, ?_, h.hc, ?_, ?_, ?_, ?_, ?_, ?_, ?_, h.xe, h.em, hM⟩
  · rw [hc _ _ (by omega)]; exact h.bC
  · rw [hr _ _ (by omega)]; exact h.bR
  · rw [hl _ _ (by omega) (by omega)]; exact h.rC
  · rw [hrl _ (by omega)]; exact h.rR
  · rw [hl _ _ (by omega) (by omega)]; exact h.cC
  · rw [hrl _ (by omega)]; exact h.cR
  · rw [hc _ _ (by omega)]; exact h.be
  · rw [hc _ _ (by omega)]; exact h.nC
  · rw [hr _ _ (by omega)]; exact h.nR
  · rw [hc _ _ (by omega)]; exact h.eC
  · rw [hr _ _ (by omega)]; exact h.eR
theorem zX_md {n m g b : Nat} {D R D' R' : zx_D} (h : zX n m g b D R) (hc : ∀ p k, p ≠ 7 → zg_i D' p k = zg_i D p k) (hl : ∀ p k, p ≠ 7 → p ≠ 8 → zg_l D' p k = zg_l D p k) (hr : ∀ p k, ¬ (p = 0 ∧ k = 12) → zg_i R' p k = zg_i R p k) (hrl : ∀ k, k < 13 ∨ 16 < k → zg_l R' 0 k = zg_l R 0 k) : zX n m g b D' R' :=
  ⟨zV_md h.v hc hl hr hrl, by rw [hc _ _ (by omega)]; exact h.bC, by rw [hr _ _ (by omega)]; exact h.bR⟩
def zE (D R : zx_D) (i j : Nat) : Prop := ∃ d, 1 ≤ d ∧ d < 2 ^ 34 ∧ zg_l D 8 i = nL d ∧ zg_l R 0 j = nL d
theorem zM_up {lc lp pb st st' : Nat} {Z : Nat → Nat} {D R D' R' : zx_D} (h : zM lc lp pb st Z D R) (hc : ∀ p k, p ≠ 7 → zg_i D' p k = zg_i D p k) (h7 : ∀ k, 3 ≤ k → k ≤ 5 → zg_i D' 7 k = zg_i D 7 k) (hr : ∀ p k, ¬ (p = 0 ∧ k = 12) → zg_i R' p k = zg_i R p k) (hs : st' < 12) (sC : zg_i D' 7 2 = nI st') (sR : zg_i R' 0 12 = nI st') : zM lc lp pb st' Z D' R' := by
  refine ⟨h.hc, h.hp, ?_, ?_, ?_, ?_, ?_, ?_, hs, sC, sR, ?_⟩
  · rw [h7 _ (by omega) (by omega)]; exact h.lcC
  · rw [hr _ _ (by omega)]; exact h.lcR
  · rw [h7 _ (by omega) (by omega)]; exact h.lpC
  · rw [hr _ _ (by omega)]; exact h.lpR
  · rw [h7 _ (by omega) (by omega)]; exact h.pbC
  · rw [hr _ _ (by omega)]; exact h.pbR
  · intro k hk; rw [hc _ _ (by omega), hr _ _ (by omega)]; exact h.ch k hk
theorem c_bf (k : Nat) (hk : k ≤ 3) (v : Int64) (D : zx_D) : ∃ D', g_Mdl_bringForward (nI k) v D = some D' ∧ (∀ p j, zg_i D' p j = zg_i D p j) ∧ (∀ p j, p ≠ 8 → zg_l D' p j = zg_l D p j) ∧ zg_l D' 8 0 = v ∧ (∀ i, 1 ≤ i → i ≤ k → zg_l D' 8 i = zg_l D 8 (i - 1)) ∧ (∀ i, k < i → i ≤ 3 → zg_l D' 8 i = zg_l D 8 i) := by
  have hk' : k = 0 ∨ k = 1 ∨ k = 2 ∨ k = 3 := by omega
  rcases hk' with rfl | rfl | rfl | rfl
  · refine ⟨zp_l D 8 0 v, rfl, fun _ _ => Eq.refl _, fun p j hp => by simp [y_gl, hp], rfl, fun i h1 h2 => by omega, fun i h1 h2 => by simp [y_gl, show i ≠ 0 by omega]⟩
  · refine ⟨zp_l (zp_l D 8 1 (zg_l D 8 0)) 8 0 v, rfl, fun _ _ => Eq.refl _, fun p j hp => by simp [y_gl, hp], rfl, fun i h1 h2 => ?_, fun i h1 h2 => by simp [y_gl, show i ≠ 0 by omega, show i ≠ 1 by omega]⟩
    have : i = 1 := by omega
    subst this
    rfl
  · refine ⟨zp_l (zp_l (zp_l D 8 2 (zg_l D 8 1)) 8 1 (zg_l D 8 0)) 8 0 v, rfl, fun _ _ => Eq.refl _, fun p j hp => by simp [y_gl, hp], rfl, fun i h1 h2 => ?_, fun i h1 h2 => by simp [y_gl, show i ≠ 0 by omega, show i ≠ 1 by omega, show i ≠ 2 by omega]⟩
    have : i = 1 ∨ i = 2 := by omega
    rcases this with rfl | rfl <;> rfl
  · refine ⟨zp_l (zp_l (zp_l (zp_l D 8 3 (zg_l D 8 2)) 8 2 (zg_l D 8 1)) 8 1 (zg_l D 8 0)) 8 0 v, rfl, fun _ _ => Eq.refl _, fun p j hp => by simp [y_gl, hp], rfl, fun i h1 h2 => ?_, fun i h1 h2 => by omega⟩
    have : i = 1 ∨ i = 2 ∨ i = 3 := by omega
    rcases this with rfl | rfl | rfl <;> rfl
theorem r_turn (k : Nat) (hk : k ≤ 3) (R : zx_D) : ∃ R', g_R_turn (nI k) R = some R' ∧ (∀ p j, zg_i R' p j = zg_i R p j) ∧ (∀ j, j < 13 ∨ 16 < j → zg_l R' 0 j = zg_l R 0 j) ∧ zg_l R' 0 13 = zg_l R 0 (13 + k) ∧ (∀ i, 1 ≤ i → i ≤ k → zg_l R' 0 (13 + i) = zg_l R 0 (12 + i)) ∧ (∀ i, k < i → i ≤ 3 → zg_l R' 0 (13 + i) = zg_l R 0 (13 + i)) := by
  have hk' : k = 0 ∨ k = 1 ∨ k = 2 ∨ k = 3 := by omega
  rcases hk' with rfl | rfl | rfl | rfl
  · refine ⟨zp_l (zp_l (zp_l (zp_l R 0 16 (zg_l R 0 16)) 0 15 (zg_l R 0 15)) 0 14 (zg_l R 0 14)) 0 13 (zg_l R 0 13), rfl, fun _ _ => Eq.refl _, fun j hj => by simp [y_gl, show j ≠ 13 by omega, show j ≠ 14 by omega, show j ≠ 15 by omega, show j ≠ 16 by omega], rfl, fun i h1 h2 => by omega, fun i h1 h2 => ?_⟩
    have : i = 1 ∨ i = 2 ∨ i = 3 := by omega
    rcases this with rfl | rfl | rfl <;> rfl
  · refine ⟨zp_l (zp_l (zp_l (zp_l R 0 16 (zg_l R 0 16)) 0 15 (zg_l R 0 15)) 0 14 (zg_l R 0 13)) 0 13 (zg_l R 0 14), rfl, fun _ _ => Eq.refl _, fun j hj => by simp [y_gl, show j ≠ 13 by omega, show j ≠ 14 by omega, show j ≠ 15 by omega, show j ≠ 16 by omega], rfl, fun i h1 h2 => ?_, fun i h1 h2 => ?_⟩
    · have : i = 1 := by omega
      subst this
      rfl
    · have : i = 2 ∨ i = 3 := by omega
      rcases this with rfl | rfl <;> rfl
  · refine ⟨zp_l (zp_l (zp_l (zp_l R 0 16 (zg_l R 0 16)) 0 15 (zg_l R 0 14)) 0 14 (zg_l R 0 13)) 0 13 (zg_l R 0 15), rfl, fun _ _ => Eq.refl _, fun j hj => by simp [y_gl, show j ≠ 13 by omega, show j ≠ 14 by omega, show j ≠ 15 by omega, show j ≠ 16 by omega], rfl, fun i h1 h2 => ?_, fun i h1 h2 => ?_⟩
    · have : i = 1 ∨ i = 2 := by omega
      rcases this with rfl | rfl <;> rfl
    · have : i = 3 := by omega
      subst this
      rfl
  · refine ⟨zp_l (zp_l (zp_l (zp_l R 0 16 (zg_l R 0 15)) 0 15 (zg_l R 0 14)) 0 14 (zg_l R 0 13)) 0 13 (zg_l R 0 16), rfl, fun _ _ => Eq.refl _, fun j hj => by simp [y_gl, show j ≠ 13 by omega, show j ≠ 14 by omega, show j ≠ 15 by omega, show j ≠ 16 by omega], rfl, fun i h1 h2 => ?_, fun i h1 h2 => by omega⟩
    have : i = 1 ∨ i = 2 ∨ i = 3 := by omega
    rcases this with rfl | rfl | rfl <;> rfl
