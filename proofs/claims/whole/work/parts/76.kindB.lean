theorem tot_erase {Z : Nat → Nat} {x : Nat} : ∀ {A : List Nat}, x ∈ A → tot A Z = Z x + tot (A.erase x) Z
  | [], h => absurd h List.not_mem_nil
  | y :: A, h => by
    by_cases e : y = x
    · subst e
      rw [List.erase_cons_head]
      rfl
    · have h2 : x ∈ A := by
        rcases List.mem_cons.mp h with q | q
        · exact absurd q.symm e
        · exact q
      have ih := tot_erase (Z := Z) h2
      rw [List.erase_cons_tail (by simpa using e)]
      unfold tot at ih ⊢
      rw [List.map_cons, List.sum_cons, List.map_cons, List.sum_cons, ih]
      omega
theorem tot_sub {Z : Nat → Nat} : ∀ (l A : List Nat), l.Nodup → (∀ x, x ∈ l → x ∈ A) → tot l Z ≤ tot A Z
  | [], A, _, _ => Nat.zero_le _
  | x :: l, A, hn, hs => by
    have hx := hs x List.mem_cons_self
    obtain ⟨h1, h2⟩ := List.nodup_cons.mp hn
    have ih := tot_sub (Z := Z) l (A.erase x) h2 (fun y hy => by
      have e : y ≠ x := fun q => h1 (by rw [← q]; exact hy)
      exact (List.mem_erase_of_ne e).mpr (hs y (List.mem_cons_of_mem _ hy)))
    rw [tot_erase hx]
    unfold tot at ih ⊢
    rw [List.map_cons, List.sum_cons]
    omega
def zK5 (Z : Nat → Nat) (st Q : Nat) : Nat := Z (st * 16 + Q) + Z (384 + st) + Z (396 + st) + Z (408 + st) + Z (420 + st)
def zL10 (Z : Nat → Nat) : Nat := Z 946 + Z 947 + (Z 1205 + Z 1207 + Z 1211 + Z 1219 + Z 1235 + Z 1267 + Z 1331 + Z 1459)
theorem zKL_15 {Z : Nat → Nat} {st Q : Nat} (hs : st < 12) (hQ : Q < 16) : zK5 Z st Q + zL10 Z ≤ tot zKL Z := by
  have key := tot_sub (Z := Z) [st * 16 + Q, 384 + st, 396 + st, 408 + st, 420 + st, 946, 947, 1205, 1207, 1211, 1219, 1235, 1267, 1331, 1459] zKL (by
    simp only [List.nodup_cons, List.mem_cons, List.not_mem_nil, or_false, not_or, List.nodup_nil, not_false_eq_true, and_true]
    omega) (fun y hy => by
    simp only [List.mem_cons, List.not_mem_nil, or_false] at hy
    rw [zKL_mem]
    omega)
  unfold tot at key
  simp only [List.map_cons, List.map_nil, List.sum_cons, List.sum_nil] at key
  unfold zK5 zL10
  unfold tot
  omega
theorem d_kindB {n m g b r c x e lc lp pb st Q N S E s : Nat} {Z : Nat → Nat} {D R : zx_D} (h : zA n m g b r c x e lc lp pb st Z D R) (hB : zBk N S E s r c) (hN : N + 5 ≤ 31) (hS : S + zK5 Z st Q ≤ 527) (hE : E ≤ 26) (hQ : Q < 16) (hq : ((g_R_bytes R).bind fun q1 => g_R_low4 q1 R) = some (nI Q)) :
    (∃ r' c' x' s' D' R', g_Mdl_codeKind_s (nI Q) D = some (nI 7, D') ∧ g_R_token R = r_tk 7 (nI Q) R' ∧ zA n m g b r' c' x' e lc lp pb st Z D' R' ∧ zQ D D' R R' ∧ zBk (N + 5) (S + zK5 Z st Q) E s' r' c') ∨
    (∃ kd D' R', 1 ≤ kd ∧ kd ≤ 7 ∧ g_Mdl_codeKind_s (nI Q) D = some (nI kd, D') ∧ g_R_token R = r_tk kd (nI Q) R' ∧ zX n m g b D' R' ∧ zQ D D' R R') := by
  have hs := h.md.hs
  have pw : 0 < 2 ^ (lc + lp) := Nat.two_pow_pos _
  obtain ⟨cK1, cK2, cK3, cK4, cK5⟩ := c_kind (Q := Q) h.md.stC
  obtain ⟨rK1, rK2, rK3, rK4, rK5⟩ := r_kind (Q := Q) h.md.stR hq
  have zk : ∀ j, j < 432 → zf j = 6144 + j := fun j hj => zf_kind hj
  unfold zK5 at hS ⊢
  rcases d_bitB h hB (by omega) (by omega) hE (k := st * 16 + Q) (by omega) 0 with ⟨r1, c1, x1, s1, D1, R1, t1, t2, t3, t4, t5⟩ | ⟨D1, R1, t1, t2, t3, t4⟩
  · rw [zk _ (by omega)] at t2
    have t1 : ∀ w, g_Src_codeBit (nI (st * 16 + Q)) w D = some (1, D1) := fun w => t1
    rcases d_bitB t3 t5 (by omega) (by omega) hE (k := 384 + st) (by omega) 0 with ⟨r2, c2, x2, s2, D2, R2, u1, u2, u3, u4, u5⟩ | ⟨D2, R2, u1, u2, u3, u4⟩
    · rw [zk _ (by omega)] at u2
      have u1 : ∀ w, g_Src_codeBit (nI (384 + st)) w D1 = some (1, D2) := fun w => u1
      rcases d_bitB u3 u5 (by omega) (by omega) hE (k := 396 + st) (by omega) 0 with ⟨r3, c3, x3, s3, D3, R3, v1, v2, v3, v4, v5⟩ | ⟨D3, R3, v1, v2, v3, v4⟩
      · rw [zk _ (by omega)] at v2
        have v1 : ∀ w, g_Src_codeBit (nI (396 + st)) w D2 = some (1, D3) := fun w => v1
        rcases d_bitB v3 v5 (by omega) (by omega) hE (k := 408 + st) (by omega) 0 with ⟨r4, c4, x4, s4, D4, R4, w1, w2, w3, w4, w5⟩ | ⟨D4, R4, w1, w2, w3, w4⟩
        · rw [zk _ (by omega)] at w2
          have w1 : ∀ w, g_Src_codeBit (nI (408 + st)) w D3 = some (1, D4) := fun w => w1
          rcases d_bitB w3 w5 (by omega) (by omega) hE (k := 420 + st) (by omega) 0 with ⟨r5, c5, x5, s5, D5, R5, y1, y2, y3, y4, y5⟩ | ⟨D5, R5, y1, y2, y3, y4⟩
          · left
            rw [zk _ (by omega)] at y2
            refine ⟨r5, c5, x5, s5, D5, R5, cK5 D1 D2 D3 D4 D5 1 t1 t3.md.stC u1 u3.md.stC v1 v3.md.stC w1 w3.md.stC (fun w => y1), rK5 R1 R2 R3 R4 R5 1 t2 t3.md.stR u2 u3.md.stR v2 v3.md.stR w2 w3.md.stR y2 (by omega), y3, t4.trans (u4.trans (v4.trans (w4.trans y4))), ?_⟩
            rw [show S + (Z (st * 16 + Q) + Z (384 + st) + Z (396 + st) + Z (408 + st) + Z (420 + st)) = S + Z (st * 16 + Q) + Z (384 + st) + Z (396 + st) + Z (408 + st) + Z (420 + st) by omega]
            exact y5
          · right
            rw [zk _ (by omega)] at y2
            exact ⟨6 + 0, D5, R5, by omega, by omega, cK5 D1 D2 D3 D4 D5 0 t1 t3.md.stC u1 u3.md.stC v1 v3.md.stC w1 w3.md.stC (fun w => y1), rK5 R1 R2 R3 R4 R5 0 t2 t3.md.stR u2 u3.md.stR v2 v3.md.stR w2 w3.md.stR y2 (by omega), y3, t4.trans (u4.trans (v4.trans (w4.trans y4)))⟩
        · right
          rw [zk _ (by omega)] at w2
          exact ⟨5, D4, R4, by omega, by omega, cK4 D1 D2 D3 D4 t1 t3.md.stC u1 u3.md.stC v1 v3.md.stC (fun w => w1), rK4 R1 R2 R3 R4 t2 t3.md.stR u2 u3.md.stR v2 v3.md.stR w2, w3, t4.trans (u4.trans (v4.trans w4))⟩
      · right
        rw [zk _ (by omega)] at v2
        have e1 : zg_i D3 7 2 = nI st := by
          rw [v4.c 7 2 (by omega) (by omega)]
          exact u3.md.stC
        have e2 : zg_i R3 0 12 = nI st := by
          rw [v4.r 12 (by omega) (by omega)]
          exact u3.md.stR
        exact ⟨3 + 0, D3, R3, by omega, by omega, cK3 D1 D2 D3 D3 0 t1 t3.md.stC u1 u3.md.stC (fun w => v1) e1 (fun w => x_bitC _ _ v3.bC) (by omega), rK3 R1 R2 R3 R3 0 t2 t3.md.stR u2 u3.md.stR v2 e2 (x_bitR _ v3.bR) (by omega), v3, t4.trans (u4.trans v4)⟩
    · right
      rw [zk _ (by omega)] at u2
      exact ⟨2, D2, R2, by omega, by omega, cK2 D1 D2 t1 t3.md.stC (fun w => u1), rK2 R1 R2 t2 t3.md.stR u2, u3, t4.trans u4⟩
  · right
    rw [zk _ (by omega)] at t2
    exact ⟨1, D1, R1, by omega, by omega, cK1 D1 (fun w => t1), rK1 R1 t2, t3, t4⟩
def zWj (Z : Nat → Nat) : Nat → Nat → Nat
  | 0, _ => 0
  | j + 1, v => Z (1204 + v) + zWj Z j (2 * v + 1)
theorem d_treeBL {n m g b e lc lp pb st E : Nat} {Z : Nat → Nat} (x2 x3 : Int32) (hE : E ≤ 26) : ∀ (j k1 k2 v r c x N S s : Nat) (D R : zx_D), j ≤ 8 → j < k1 → j < k2 → v + 1 = 2 ^ (9 - j) → zA n m g b r c x e lc lp pb st Z D R → zBk N S E s r c → N + j ≤ 31 → S + zWj Z j v ≤ 527 →
    (∃ r' c' x' s' D' R', g_Mdl_codeTree_s_8 (nI 1204) x2 x3 k1 (nI v) (nI j - 1) D = some (nI 511, D') ∧ g_R_tree_5 (nI 7350) (nI 8) k2 (nI v) (nI (8 - j)) R = some (nI 511, R') ∧ zA n m g b r' c' x' e lc lp pb st Z D' R' ∧ zQ D D' R R' ∧ zBk (N + j) (S + zWj Z j v) E s' r' c') ∨
    (∃ v' D' R', v' < 512 ∧ 256 ≤ v' ∧ g_Mdl_codeTree_s_8 (nI 1204) x2 x3 k1 (nI v) (nI j - 1) D = some (nI v', D') ∧ g_R_tree_5 (nI 7350) (nI 8) k2 (nI v) (nI (8 - j)) R = some (nI v', R') ∧ zX n m g b D' R' ∧ zQ D D' R R')
  | 0, k1 + 1, k2 + 1, v, r, c, x, N, S, s, D, R, _, _, _, hv, h, hB, _, _ => by
    left
    have e1 : nI 0 - 1 < 0 := by decide
    have e2 : nI 8 ≤ nI (8 - 0) := Int32.le_refl _
    have hv : v = 511 := by
      have : 2 ^ (9 - 0) = 512 := by decide
      omega
    subst hv
    exact ⟨r, c, x, s, D, R, by simp only [Option.bind_some, ↓reduceIte, not_true_eq_false, not_false_eq_true, y_1, g_Mdl_codeTree_s_8, e1], by simp only [Option.bind_some, ↓reduceIte, not_true_eq_false, not_false_eq_true, y_1, g_R_tree_5, e2], h, zQ_rfl, hB⟩
  | j + 1, k1 + 1, k2 + 1, v, r, c, x, N, S, s, D, R, hj, h1, h2, hv, h, hB, hN, hS => by
    have pw : 0 < 2 ^ (lc + lp) := Nat.two_pow_pos _
    have hp : 2 ^ (9 - j) = 2 * 2 ^ (9 - (j + 1)) := by rw [show 9 - j = (9 - (j + 1)) + 1 by omega, Nat.pow_succ, Nat.mul_comm]
    have hp2 : 2 ^ (9 - (j + 1)) ≤ 2 ^ 8 := Nat.pow_le_pow_right (by omega) (by omega)
    have hp3 : 1 < 2 ^ (9 - (j + 1)) := Nat.one_lt_two_pow (by omega)
    have hp6 : 2 ^ (8 - j) = 2 ^ (9 - (j + 1)) := by congr 1; omega
    have e1 : ¬ nI (j + 1) - 1 < 0 := by
      rw [show nI (j + 1) - 1 = nI j from y_sub (a := j + 1) (b := 1) (by omega)]
      intro q
      have := (y_lt (a := j) (b := 0) (by omega) (by omega)).mp q
      omega
    have e2 : ¬ nI 8 ≤ nI (8 - (j + 1)) := fun q => by have := (y_le (by omega) (by omega)).mp q; omega
    have e3 : nI (j + 1) - 1 + (-1) = nI j - 1 := by
      rw [show nI (j + 1) - 1 = nI j from y_sub (a := j + 1) (b := 1) (by omega)]
      exact (Int32.sub_eq_add_neg _ _).symm
    have e4 : 8 - (j + 1) + 1 = 8 - j := by omega
    have e5 : nI 7350 + nI v = nI (zf (1204 + v)) := by
      rw [y_add, show 1204 + v = 946 + (258 + v) by omega, zf_rep (by omega)]
      congr 1
      omega
    unfold zWj at hS ⊢
    rcases d_bitB h hB (by omega) (by omega) hE (k := 1204 + v) (by omega) (zo_ushr x3 (nI (j + 1) - 1) &&& 1) with ⟨r1, c1, x1, s1, D1, R1, t1, t2, t3, t4, t5⟩ | ⟨D1, R1, t1, t2, t3, t4⟩
    · have d1 : 2 * nI v + 1 = nI (2 * v + 1) := y_dbl v 1
      have E1 : g_Mdl_codeTree_s_8 (nI 1204) x2 x3 (k1 + 1) (nI v) (nI (j + 1) - 1) D = g_Mdl_codeTree_s_8 (nI 1204) x2 x3 k1 (nI (2 * v + 1)) (nI j - 1) D1 := by
        rw [g_Mdl_codeTree_s_8, if_neg e1, y_add, t1]
        simp only [o_sb, d1, e3]
      have E2 : g_R_tree_5 (nI 7350) (nI 8) (k2 + 1) (nI v) (nI (8 - (j + 1))) R = g_R_tree_5 (nI 7350) (nI 8) k2 (nI (2 * v + 1)) (nI (8 - j)) R1 := by
        rw [g_R_tree_5, if_neg e2, e5, t2]
        simp only [o_sb, d1, y_1, e4]
      rw [E1, E2]
      rcases d_treeBL x2 x3 hE j k1 k2 (2 * v + 1) r1 c1 x1 (N + 1) (S + Z (1204 + v)) s1 D1 R1 (by omega) (by omega) (by omega) (by omega) t3 t5 (by omega) (by omega) with ⟨r', c', x', s', D', R', w1, w2, w3, w4, w5⟩ | ⟨v', D', R', w1, w2, w3, w4, w5, w6⟩
      · left
        refine ⟨r', c', x', s', D', R', w1, w2, w3, t4.trans w4, ?_⟩
        rw [show N + (j + 1) = N + 1 + j by omega, show S + (Z (1204 + v) + zWj Z j (2 * v + 1)) = S + Z (1204 + v) + zWj Z j (2 * v + 1) by omega]
        exact w5
      · exact Or.inr ⟨v', D', R', w1, w2, w3, w4, w5, t4.trans w6⟩
    · right
      have d0 : 2 * nI v + 0 = nI (2 * v + 0) := y_dbl v 0
      have hp7 : 2 ^ (8 - j + 1) = 2 * 2 ^ (8 - j) := by rw [Nat.pow_succ, Nat.mul_comm]
      obtain ⟨v', w1, w2, w3, w4⟩ := x_treeL D1 R1 (nI 1204) (nI 7350) 8 x2 x3 (by omega) t3.bC t3.bR j k1 k2 (2 * v + 0) (by omega) (by omega) (by omega) (by omega) (by omega)
      refine ⟨v', D1, R1, w1, w2, ?_, ?_, t3, t4⟩
      · rw [g_Mdl_codeTree_s_8, if_neg e1, y_add, t1]
        simp only [o_sb, d0, e3]
        exact w3
      · rw [g_R_tree_5, if_neg e2, e5, t2]
        simp only [o_sb, d0, y_1, e4]
        exact w4
