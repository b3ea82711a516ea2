theorem d_kind {n m g b r c x e lc lp pb st Q : Nat} {Z : Nat → Nat} {D R : zx_D} (h : zA n m g b r c x e lc lp pb st Z D R) (hcr : c < r) (hQ : Q < 16) (hq : ((g_R_bytes R).bind fun q1 => g_R_low4 q1 R) = some (nI Q)) :
    (∃ kd r' c' x' Z' D' R', 1 ≤ kd ∧ kd ≤ 7 ∧ g_Mdl_codeKind_s (nI Q) D = some (nI kd, D') ∧ g_R_token R = r_tk kd (nI Q) R' ∧ zA n m g b r' c' x' e lc lp pb st Z' D' R' ∧ zQ D D' R R' ∧ c' < r' ∧ tot zKL Z' ≤ tot zKL Z + 1 ∧ (kd = 7 → tot zKL Z' ≤ tot zKL Z) ∧ tot zFs Z' ≤ tot zFs Z) ∨
    (∃ kd D' R', 1 ≤ kd ∧ kd ≤ 7 ∧ g_Mdl_codeKind_s (nI Q) D = some (nI kd, D') ∧ g_R_token R = r_tk kd (nI Q) R' ∧ zX n m g b D' R' ∧ zQ D D' R R') := by
  have hs := h.md.hs
  have pw : 0 < 2 ^ (lc + lp) := Nat.two_pow_pos _
  obtain ⟨cK1, cK2, cK3, cK4, cK5⟩ := c_kind (Q := Q) h.md.stC
  obtain ⟨rK1, rK2, rK3, rK4, rK5⟩ := r_kind (Q := Q) h.md.stR hq
  have zk : ∀ j, j < 432 → zf j = 6144 + j := fun j hj => zf_kind hj
  have nf : ∀ j, j < 2000 → j ∉ zFs := fun j hj q => by rw [zFs_mem] at q; omega
  rcases d_bit h (Or.inl hcr) (k := st * 16 + Q) (by omega) 0 with ⟨r1, c1, x1, Z1, b1, D1, R1, t1, t2, t3, t4, t5, t6, t7⟩ | ⟨D1, R1, t1, t2, t3, t4⟩
  · rw [zk _ (by omega)] at t2
    have hcr1 := t6 hcr
    rcases t5 with ⟨rfl, hZ1⟩ | ⟨rfl, hZ1⟩
    · left
      refine ⟨1, r1, c1, x1, Z1, D1, R1, by omega, by omega, cK1 D1 (fun w => t1), rK1 R1 t2, t3, t4, hcr1, ?_, fun q => by omega, ?_⟩
      · rw [hZ1, tot_put zKL_nd]
        split <;> omega
      · rw [hZ1, tot_put zFs_nd, if_neg (nf _ (by omega))]
        omega
    · have f1 : tot zKL Z1 = tot zKL Z := by rw [hZ1]
      have g1 : tot zFs Z1 = tot zFs Z := by rw [hZ1]
      have t1 : ∀ w, g_Src_codeBit (nI (st * 16 + Q)) w D = some (1, D1) := fun w => t1
      have t2 : g_R_bit (nI (6144 + (st * 16 + Q))) R = some (1, R1) := t2
      rcases d_bit t3 (Or.inl hcr1) (k := 384 + st) (by omega) 0 with ⟨r2, c2, x2, Z2, b2, D2, R2, s1, s2, s3, s4, s5, s6, s7⟩ | ⟨D2, R2, s1, s2, s3, s4⟩
      · rw [zk _ (by omega)] at s2
        have hcr2 := s6 hcr1
        rcases s5 with ⟨rfl, hZ2⟩ | ⟨rfl, hZ2⟩
        · left
          refine ⟨2, r2, c2, x2, Z2, D2, R2, by omega, by omega, cK2 D1 D2 t1 t3.md.stC (fun w => s1), rK2 R1 R2 t2 t3.md.stR s2, s3, t4.trans s4, hcr2, ?_, fun q => by omega, ?_⟩
          · rw [hZ2, tot_put zKL_nd, f1]
            split <;> omega
          · rw [hZ2, tot_put zFs_nd, if_neg (nf _ (by omega)), g1]
            omega
        · have f2 : tot zKL Z2 = tot zKL Z := by rw [hZ2, f1]
          have g2 : tot zFs Z2 = tot zFs Z := by rw [hZ2, g1]
          have s1 : ∀ w, g_Src_codeBit (nI (384 + st)) w D1 = some (1, D2) := fun w => s1
          have s2 : g_R_bit (nI (6144 + (384 + st))) R1 = some (1, R2) := s2
          rcases d_bit s3 (Or.inl hcr2) (k := 396 + st) (by omega) 0 with ⟨r3, c3, x3, Z3, b3, D3, R3, u1, u2, u3, u4, u5, u6, u7⟩ | ⟨D3, R3, u1, u2, u3, u4⟩
          · rw [zk _ (by omega)] at u2
            have hcr3 := u6 hcr2
            rcases u5 with ⟨rfl, hZ3⟩ | ⟨rfl, hZ3⟩
            · have u1 : ∀ w, g_Src_codeBit (nI (396 + st)) w D2 = some (0, D3) := fun w => u1
              have u2 : g_R_bit (nI (6144 + (396 + st))) R2 = some (0, R3) := u2
              have f3 : tot zKL Z3 ≤ tot zKL Z + 1 := by
                rw [hZ3, tot_put zKL_nd, f2]
                split <;> omega
              have g3 : tot zFs Z3 ≤ tot zFs Z := by
                rw [hZ3, tot_put zFs_nd, if_neg (nf _ (by omega)), g2]
                omega
              have nk : 192 + st * 16 + Q ∉ zKL := fun q => by rw [zKL_mem] at q; omega
              rcases d_bit u3 (Or.inl hcr3) (k := 192 + st * 16 + Q) (by omega) 0 with ⟨r4, c4, x4, Z4, b4, D4, R4, v1, v2, v3, v4, v5, v6, v7⟩ | ⟨D4, R4, v1, v2, v3, v4⟩
              · left
                rw [zk _ (by omega)] at v2
                have hb4 : b4 ≤ 1 := by omega
                refine ⟨3 + b4, r4, c4, x4, Z4, D4, R4, by omega, by omega, cK3 D1 D2 D3 D4 b4 t1 t3.md.stC s1 s3.md.stC u1 u3.md.stC (fun w => v1) hb4, rK3 R1 R2 R3 R4 b4 t2 t3.md.stR s2 s3.md.stR u2 u3.md.stR v2 hb4, v3, t4.trans (s4.trans (u4.trans v4)), v6 hcr3, ?_, fun q => by omega, ?_⟩
                · rcases v5 with ⟨_, q⟩ | ⟨_, q⟩
                  · rw [q, tot_put zKL_nd, if_neg nk]
                    omega
                  · rw [q]
                    exact f3
                · rcases v5 with ⟨_, q⟩ | ⟨_, q⟩
                  · rw [q, tot_put zFs_nd, if_neg (nf _ (by omega))]
                    omega
                  · rw [q]
                    exact g3
              · right
                rw [zk _ (by omega)] at v2
                exact ⟨3 + 0, D4, R4, by omega, by omega, cK3 D1 D2 D3 D4 0 t1 t3.md.stC s1 s3.md.stC u1 u3.md.stC (fun w => v1) (by omega), rK3 R1 R2 R3 R4 0 t2 t3.md.stR s2 s3.md.stR u2 u3.md.stR v2 (by omega), v3, t4.trans (s4.trans (u4.trans v4))⟩
            · have f3 : tot zKL Z3 = tot zKL Z := by rw [hZ3, f2]
              have g3 : tot zFs Z3 = tot zFs Z := by rw [hZ3, g2]
              have u1 : ∀ w, g_Src_codeBit (nI (396 + st)) w D2 = some (1, D3) := fun w => u1
              have u2 : g_R_bit (nI (6144 + (396 + st))) R2 = some (1, R3) := u2
              rcases d_bit u3 (Or.inl hcr3) (k := 408 + st) (by omega) 0 with ⟨r4, c4, x4, Z4, b4, D4, R4, v1, v2, v3, v4, v5, v6, v7⟩ | ⟨D4, R4, v1, v2, v3, v4⟩
              · rw [zk _ (by omega)] at v2
                have hcr4 := v6 hcr3
                rcases v5 with ⟨rfl, hZ4⟩ | ⟨rfl, hZ4⟩
                · left
                  refine ⟨5, r4, c4, x4, Z4, D4, R4, by omega, by omega, cK4 D1 D2 D3 D4 t1 t3.md.stC s1 s3.md.stC u1 u3.md.stC (fun w => v1), rK4 R1 R2 R3 R4 t2 t3.md.stR s2 s3.md.stR u2 u3.md.stR v2, v3, t4.trans (s4.trans (u4.trans v4)), hcr4, ?_, fun q => by omega, ?_⟩
                  · rw [hZ4, tot_put zKL_nd, f3]
                    split <;> omega
                  · rw [hZ4, tot_put zFs_nd, if_neg (nf _ (by omega)), g3]
                    omega
                · have f4 : tot zKL Z4 = tot zKL Z := by rw [hZ4, f3]
                  have g4 : tot zFs Z4 = tot zFs Z := by rw [hZ4, g3]
                  have v1 : ∀ w, g_Src_codeBit (nI (408 + st)) w D3 = some (1, D4) := fun w => v1
                  have v2 : g_R_bit (nI (6144 + (408 + st))) R3 = some (1, R4) := v2
                  rcases d_bit v3 (Or.inl hcr4) (k := 420 + st) (by omega) 0 with ⟨r5, c5, x5, Z5, b5, D5, R5, w1, w2, w3, w4, w5, w6, w7⟩ | ⟨D5, R5, w1, w2, w3, w4⟩
                  · left
                    rw [zk _ (by omega)] at w2
                    have hb5 : b5 ≤ 1 := by omega
                    refine ⟨6 + b5, r5, c5, x5, Z5, D5, R5, by omega, by omega, cK5 D1 D2 D3 D4 D5 b5 t1 t3.md.stC s1 s3.md.stC u1 u3.md.stC v1 v3.md.stC (fun w => w1), rK5 R1 R2 R3 R4 R5 b5 t2 t3.md.stR s2 s3.md.stR u2 u3.md.stR v2 v3.md.stR w2 hb5, w3, t4.trans (s4.trans (u4.trans (v4.trans w4))), w6 hcr4, ?_, fun hk => ?_, ?_⟩
                    · rcases w5 with ⟨_, q⟩ | ⟨_, q⟩
                      · rw [q, tot_put zKL_nd, f4]
                        split <;> omega
                      · rw [q, f4]
                        omega
                    · rcases w5 with ⟨q1, _⟩ | ⟨_, q⟩
                      · omega
                      · rw [q, f4]
                        exact Nat.le_refl _
                    · rcases w5 with ⟨_, q⟩ | ⟨_, q⟩
                      · rw [q, tot_put zFs_nd, if_neg (nf _ (by omega)), g4]
                        omega
                      · rw [q, g4]
                        exact Nat.le_refl _
                  · right
                    rw [zk _ (by omega)] at w2
                    exact ⟨6 + 0, D5, R5, by omega, by omega, cK5 D1 D2 D3 D4 D5 0 t1 t3.md.stC s1 s3.md.stC u1 u3.md.stC v1 v3.md.stC (fun w => w1), rK5 R1 R2 R3 R4 R5 0 t2 t3.md.stR s2 s3.md.stR u2 u3.md.stR v2 v3.md.stR w2 (by omega), w3, t4.trans (s4.trans (u4.trans (v4.trans w4)))⟩
              · right
                rw [zk _ (by omega)] at v2
                exact ⟨5, D4, R4, by omega, by omega, cK4 D1 D2 D3 D4 t1 t3.md.stC s1 s3.md.stC u1 u3.md.stC (fun w => v1), rK4 R1 R2 R3 R4 t2 t3.md.stR s2 s3.md.stR u2 u3.md.stR v2, v3, t4.trans (s4.trans (u4.trans v4))⟩
          · right
            rw [zk _ (by omega)] at u2
            have e1 : zg_i D3 7 2 = nI st := by
              rw [u4.c 7 2 (by omega) (by omega)]
              exact s3.md.stC
            have e2 : zg_i R3 0 12 = nI st := by
              rw [u4.r 12 (by omega) (by omega)]
              exact s3.md.stR
            exact ⟨3 + 0, D3, R3, by omega, by omega, cK3 D1 D2 D3 D3 0 t1 t3.md.stC s1 s3.md.stC (fun w => u1) e1 (fun w => x_bitC _ _ u3.bC) (by omega), rK3 R1 R2 R3 R3 0 t2 t3.md.stR s2 s3.md.stR u2 e2 (x_bitR _ u3.bR) (by omega), u3, t4.trans (s4.trans u4)⟩
      · right
        rw [zk _ (by omega)] at s2
        exact ⟨2, D2, R2, by omega, by omega, cK2 D1 D2 t1 t3.md.stC (fun w => s1), rK2 R1 R2 t2 t3.md.stR s2, s3, t4.trans s4⟩
  · right
    rw [zk _ (by omega)] at t2
    exact ⟨1, D1, R1, by omega, by omega, cK1 D1 (fun w => t1), rK1 R1 t2, t3, t4⟩
