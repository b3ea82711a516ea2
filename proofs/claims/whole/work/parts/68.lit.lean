theorem y_ubit {a i : Nat} (ha : a < 256) (hi : i < 8) : zo_ushr (nI a) (nI i) &&& 1 = nI (a / 2 ^ i % 2) := by
  have h2 : i = 0 ∨ i = 1 ∨ i = 2 ∨ i = 3 ∨ i = 4 ∨ i = 5 ∨ i = 6 ∨ i = 7 := by omega
  have key : ∀ s : Nat, s < 8 → ∀ u : Int32, u.toBitVec = BitVec.ofNat 32 a >>> s → u &&& 1 = nI (a / 2 ^ s % 2) := by
    intro s hs u hu
    apply Int32.toBitVec_inj.mp
    rw [Int32.toBitVec_and, hu, y_ofNat_bv]
    apply BitVec.eq_of_toNat_eq
    have e1 : (1 : Int32).toBitVec = 1#32 := rfl
    have h3 : a / 2 ^ s ≤ a := Nat.div_le_self _ _
    rw [e1, BitVec.toNat_and, BitVec.toNat_ushiftRight, BitVec.toNat_ofNat, BitVec.toNat_ofNat, BitVec.toNat_ofNat, Nat.shiftRight_eq_div_pow, Nat.mod_eq_of_lt (show a < 2 ^ 32 by omega)]
    rw [Nat.mod_eq_of_lt (show 1 < 2 ^ 32 by omega), Nat.and_one_is_mod]
    rw [Nat.mod_eq_of_lt (show a / 2 ^ s % 2 < 2 ^ 32 by omega)]
  rcases h2 with rfl | rfl | rfl | rfl | rfl | rfl | rfl | rfl
  · exact key 0 (by omega) _ rfl
  · exact key 1 (by omega) _ rfl
  · exact key 2 (by omega) _ rfl
  · exact key 3 (by omega) _ rfl
  · exact key 4 (by omega) _ rfl
  · exact key 5 (by omega) _ rfl
  · exact key 6 (by omega) _ rfl
  · exact key 7 (by omega) _ rfl
theorem y_sbit {a i : Nat} (ha : a < 256) (hi : i ≤ 8) : zo_shr (nI a) (nI i) = zo_ushr (nI a) (nI i) := by
  have h2 : i = 0 ∨ i = 1 ∨ i = 2 ∨ i = 3 ∨ i = 4 ∨ i = 5 ∨ i = 6 ∨ i = 7 ∨ i = 8 := by omega
  have hm : (BitVec.ofNat 32 a).msb = false := by
    rw [BitVec.msb_eq_decide, BitVec.toNat_ofNat, Nat.mod_eq_of_lt (by omega)]
    exact decide_eq_false (by omega)
  have key : ∀ s : Nat, ∀ u v : Int32, u.toBitVec = (BitVec.ofNat 32 a).sshiftRight s → v.toBitVec = BitVec.ofNat 32 a >>> s → u = v := by
    intro s u v hu hv
    apply Int32.toBitVec_inj.mp
    rw [hu, hv, BitVec.sshiftRight_eq_of_msb_false hm]
  rcases h2 with rfl | rfl | rfl | rfl | rfl | rfl | rfl | rfl | rfl
  · exact key 0 _ _ rfl rfl
  · exact key 1 _ _ rfl rfl
  · exact key 2 _ _ rfl rfl
  · exact key 3 _ _ rfl rfl
  · exact key 4 _ _ rfl rfl
  · exact key 5 _ _ rfl rfl
  · exact key 6 _ _ rfl rfl
  · exact key 7 _ _ rfl rfl
  · exact key 8 _ _ rfl rfl
theorem x_litL (D R : zx_D) (b1 b2 mC mR : Int32) (hC : ¬ zg_i D 5 2 = 0) (hR : ¬ zg_i R 0 22 = 0) : ∀ (j k1 k2 : Nat) (al al2 : Int32) (v : Nat), j ≤ 8 → j < k1 → j < k2 → 2 ^ (8 - j) ≤ v → v < 2 ^ (8 - j + 1) → ∃ v', 256 ≤ v' ∧ v' < 512 ∧ g_Mdl_codeLiteral_s_22 b1 mC k1 al (nI v) (nI j - 1) D = some (nI v', D) ∧ g_R_literal_84 b2 mR k2 al2 (nI v) (nI j - 1) R = some (nI v', R)
  | 0, k1 + 1, k2 + 1, al, al2, v, _, _, _, hv1, hv2 => by
    have e1 : nI 0 - 1 < 0 := by decide
    exact ⟨v, hv1, hv2, by simp only [Option.bind_some, ↓reduceIte, not_true_eq_false, not_false_eq_true, y_1, g_Mdl_codeLiteral_s_22, e1], by simp only [Option.bind_some, ↓reduceIte, not_true_eq_false, not_false_eq_true, y_1, g_R_literal_84, e1]⟩
  | j + 1, k1 + 1, k2 + 1, al, al2, v, hj, h1, h2, hv1, hv2 => by
    have hp : 2 ^ (8 - (j + 1) + 1) = 2 ^ (8 - j) := by congr 1; omega
    have hp2 : 2 ^ (8 - j) = 2 * 2 ^ (8 - (j + 1)) := by rw [← hp, Nat.pow_succ, Nat.mul_comm]
    have hp5 : 2 ^ (8 - j + 1) = 2 * 2 ^ (8 - j) := by rw [Nat.pow_succ, Nat.mul_comm]
    rw [hp] at hv2
    have e0 : nI (j + 1) - 1 = nI j := y_sub (a := j + 1) (b := 1) (by omega)
    have e1 : ¬ nI j < 0 := fun q => by have := (y_lt (a := j) (b := 0) (by omega) (by omega)).mp q; omega
    have e3 : nI j + (-1) = nI j - 1 := (Int32.sub_eq_add_neg _ _).symm
    have d0 : 2 * nI v + 0 = nI (2 * v + 0) := y_dbl v 0
    obtain ⟨q2, hq2⟩ : ∃ q, ((if al = 0 then some 0 else some (1 + (zo_ushr mC (nI j) &&& 1))) : Option Int32) = some q := by
      by_cases t : al = 0
      · exact ⟨_, by rw [if_pos t]⟩
      · exact ⟨_, by rw [if_neg t]⟩
    obtain ⟨q6, hq6⟩ : ∃ q, ((if al2 = 0 then some (b2 + nI v) else some (((b2 + 256) + (256 * (zo_shr mR (nI j) &&& 1))) + nI v)) : Option Int32) = some q := by
      by_cases t : al2 = 0
      · exact ⟨_, by rw [if_pos t]⟩
      · exact ⟨_, by rw [if_neg t]⟩
    obtain ⟨al', f1⟩ : ∃ al', (if al = 0 then g_Mdl_codeLiteral_s_22 b1 mC k1 0 (nI (2 * v + 0)) (nI j - 1) D else if ¬ 0 = (zo_ushr mC (nI j)) &&& 1 then g_Mdl_codeLiteral_s_22 b1 mC k1 0 (nI (2 * v + 0)) (nI j - 1) D else g_Mdl_codeLiteral_s_22 b1 mC k1 1 (nI (2 * v + 0)) (nI j - 1) D) = g_Mdl_codeLiteral_s_22 b1 mC k1 al' (nI (2 * v + 0)) (nI j - 1) D := by
      by_cases t : al = 0
      · exact ⟨0, by rw [if_pos t]⟩
      · by_cases t2 : ¬ 0 = (zo_ushr mC (nI j)) &&& 1
        · exact ⟨0, by rw [if_neg t, if_pos t2]⟩
        · exact ⟨1, by rw [if_neg t, if_neg t2]⟩
    obtain ⟨al2', f2⟩ : ∃ al', (if al2 = 0 then g_R_literal_84 b2 mR k2 0 (nI (2 * v + 0)) (nI j - 1) R else if ¬ 0 = (zo_shr mR (nI j)) &&& 1 then g_R_literal_84 b2 mR k2 0 (nI (2 * v + 0)) (nI j - 1) R else g_R_literal_84 b2 mR k2 1 (nI (2 * v + 0)) (nI j - 1) R) = g_R_literal_84 b2 mR k2 al' (nI (2 * v + 0)) (nI j - 1) R := by
      by_cases t : al2 = 0
      · exact ⟨0, by rw [if_pos t]⟩
      · by_cases t2 : ¬ 0 = (zo_shr mR (nI j)) &&& 1
        · exact ⟨0, by rw [if_neg t, if_pos t2]⟩
        · exact ⟨1, by rw [if_neg t, if_neg t2]⟩
    obtain ⟨v', w1, w2, w3, w4⟩ := x_litL D R b1 b2 mC mR hC hR j k1 k2 al' al2' (2 * v + 0) (by omega) (by omega) (by omega) (by omega) (by omega)
    refine ⟨v', w1, w2, ?_, ?_⟩
    · rw [g_Mdl_codeLiteral_s_22, e0, if_neg e1, hq2, Option.bind_some, x_bitC _ _ hC, Option.bind_some, e3, d0, ← w3]
      exact f1
    · rw [g_R_literal_84, e0, if_neg e1, hq6, Option.bind_some, x_bitR _ hR, Option.bind_some, e3, d0, ← w4]
      exact f2
theorem d_litL {n m g b e lc lp pb st ctx mC mR : Nat} (hctx : ctx < 2 ^ (lc + lp)) (hmC : mC < 256) (hmR : mR < 256) : ∀ (j k1 k2 al v r c x : Nat) (Z : Nat → Nat) (D R : zx_D), j ≤ 8 → j < k1 → j < k2 → al ≤ 1 → (al = 1 → mC = mR) → 2 ^ (8 - j) ≤ v → v < 2 ^ (8 - j + 1) → zA n m g b r c x e lc lp pb st Z D R → c < r →
    (∃ v' r' c' x' Z' D' R', 256 ≤ v' ∧ v' < 512 ∧ g_Mdl_codeLiteral_s_22 (nI (2052 + 768 * ctx)) (nI mC) k1 (nI al) (nI v) (nI j - 1) D = some (nI v', D') ∧ g_R_literal_84 (nI (768 * ctx)) (nI mR) k2 (nI al) (nI v) (nI j - 1) R = some (nI v', R') ∧ zA n m g b r' c' x' e lc lp pb st Z' D' R' ∧ zQ D D' R R' ∧ c' < r' ∧ tot zKL Z' ≤ tot zKL Z ∧ tot zFs Z' ≤ tot zFs Z) ∨
    (∃ v' D' R', 256 ≤ v' ∧ v' < 512 ∧ g_Mdl_codeLiteral_s_22 (nI (2052 + 768 * ctx)) (nI mC) k1 (nI al) (nI v) (nI j - 1) D = some (nI v', D') ∧ g_R_literal_84 (nI (768 * ctx)) (nI mR) k2 (nI al) (nI v) (nI j - 1) R = some (nI v', R') ∧ zX n m g b D' R' ∧ zQ D D' R R')
  | 0, k1 + 1, k2 + 1, al, v, r, c, x, Z, D, R, _, _, _, _, _, hv1, hv2, h, hcr => by
    left
    have e1 : nI 0 - 1 < 0 := by decide
    exact ⟨v, r, c, x, Z, D, R, hv1, hv2, by simp only [Option.bind_some, ↓reduceIte, not_true_eq_false, not_false_eq_true, y_1, g_Mdl_codeLiteral_s_22, e1], by simp only [Option.bind_some, ↓reduceIte, not_true_eq_false, not_false_eq_true, y_1, g_R_literal_84, e1], h, zQ_rfl, hcr, Nat.le_refl _, Nat.le_refl _⟩
  | j + 1, k1 + 1, k2 + 1, al, v, r, c, x, Z, D, R, hj, h1, h2, hal, hm, hv1, hv2, h, hcr => by
    have hp : 2 ^ (8 - (j + 1) + 1) = 2 ^ (8 - j) := by congr 1; omega
    have hp2 : 2 ^ (8 - j) = 2 * 2 ^ (8 - (j + 1)) := by rw [← hp, Nat.pow_succ, Nat.mul_comm]
    have hp3 : 2 ^ (8 - j) ≤ 2 ^ 8 := Nat.pow_le_pow_right (by omega) (by omega)
    have hp5 : 2 ^ (8 - j + 1) = 2 * 2 ^ (8 - j) := by rw [Nat.pow_succ, Nat.mul_comm]
    have hp6 : 1 ≤ 2 ^ (8 - (j + 1)) := Nat.one_le_two_pow
    rw [hp] at hv2
    have e0 : nI (j + 1) - 1 = nI j := y_sub (a := j + 1) (b := 1) (by omega)
    have e1 : ¬ nI j < 0 := fun q => by have := (y_lt (a := j) (b := 0) (by omega) (by omega)).mp q; omega
    have e3 : nI j + (-1) = nI j - 1 := (Int32.sub_eq_add_neg _ _).symm
    have dC := y_ubit hmC (i := j) (by omega)
    have dR : zo_shr (nI mR) (nI j) &&& 1 = nI (mR / 2 ^ j % 2) := by rw [y_sbit hmR (by omega)]; exact y_ubit hmR (by omega)
    have z4 : ¬ nI 1 = 0 := by decide
    have z0 : nI 0 = 0 := rfl
    obtain ⟨tr, htr, iC, iR⟩ : ∃ tr, tr ≤ 2 ∧ ((if nI al = 0 then some 0 else some (1 + (zo_ushr (nI mC) (nI j) &&& 1))) : Option Int32) = some (nI tr) ∧ ((if nI al = 0 then some (nI (768 * ctx) + nI v) else some (((nI (768 * ctx) + 256) + (256 * (zo_shr (nI mR) (nI j) &&& 1))) + nI v)) : Option Int32) = some (nI (768 * ctx + 256 * tr + v)) := by
      have hal2 : al = 0 ∨ al = 1 := by omega
      rcases hal2 with rfl | rfl
      · refine ⟨0, by omega, rfl, ?_⟩
        rw [if_pos z0, y_add, show 768 * ctx + 256 * 0 + v = 768 * ctx + v by omega]
      · have hmm := hm rfl
        subst hmm
        refine ⟨1 + mC / 2 ^ j % 2, by omega, ?_, ?_⟩
        · rw [if_neg z4, dC, show (1 : Int32) = nI 1 from rfl, y_add]
        · rw [if_neg z4, dR, show (256 : Int32) = nI 256 from rfl, y_mul, y_add, y_add, y_add, show 768 * ctx + 256 + 256 * (mC / 2 ^ j % 2) + v = 768 * ctx + 256 * (1 + mC / 2 ^ j % 2) + v by omega]
    have ix : nI (2052 + 768 * ctx) + nI tr * 256 + nI v = nI (2052 + (768 * ctx + 256 * tr + v)) := by
      rw [show (256 : Int32) = nI 256 from rfl, y_mul, y_add, y_add, show 2052 + 768 * ctx + tr * 256 + v = 2052 + (768 * ctx + 256 * tr + v) by omega]
    have hlim : 2052 + (768 * ctx + 256 * tr + v) < 2052 + 768 * 2 ^ (lc + lp) := by omega
    have nk : 2052 + (768 * ctx + 256 * tr + v) ∉ zKL := fun q => by rw [zKL_mem] at q; omega
    have nf : 2052 + (768 * ctx + 256 * tr + v) ∉ zFs := fun q => by rw [zFs_mem] at q; omega
    have flag : ∀ bit, bit ≤ 1 → ∃ al', al' ≤ 1 ∧ (al' = 1 → mC = mR) ∧ (∀ E, (if nI al = 0 then g_Mdl_codeLiteral_s_22 (nI (2052 + 768 * ctx)) (nI mC) k1 0 (nI (2 * v + bit)) (nI j - 1) E else if ¬ nI bit = (zo_ushr (nI mC) (nI j)) &&& 1 then g_Mdl_codeLiteral_s_22 (nI (2052 + 768 * ctx)) (nI mC) k1 0 (nI (2 * v + bit)) (nI j - 1) E else g_Mdl_codeLiteral_s_22 (nI (2052 + 768 * ctx)) (nI mC) k1 1 (nI (2 * v + bit)) (nI j - 1) E) = g_Mdl_codeLiteral_s_22 (nI (2052 + 768 * ctx)) (nI mC) k1 (nI al') (nI (2 * v + bit)) (nI j - 1) E) ∧ (∀ E, (if nI al = 0 then g_R_literal_84 (nI (768 * ctx)) (nI mR) k2 0 (nI (2 * v + bit)) (nI j - 1) E else if ¬ nI bit = (zo_shr (nI mR) (nI j)) &&& 1 then g_R_literal_84 (nI (768 * ctx)) (nI mR) k2 0 (nI (2 * v + bit)) (nI j - 1) E else g_R_literal_84 (nI (768 * ctx)) (nI mR) k2 1 (nI (2 * v + bit)) (nI j - 1) E) = g_R_literal_84 (nI (768 * ctx)) (nI mR) k2 (nI al') (nI (2 * v + bit)) (nI j - 1) E) := by
      intro bit hb
      have hal2 : al = 0 ∨ al = 1 := by omega
      rcases hal2 with rfl | rfl
      · exact ⟨0, by omega, fun q => by omega, fun E => by rw [if_pos z0]; rfl, fun E => by rw [if_pos z0]; rfl⟩
      · have hmm := hm rfl
        by_cases q : nI bit = nI (mC / 2 ^ j % 2)
        · refine ⟨1, by omega, fun _ => hmm, fun E => ?_, fun E => ?_⟩
          · rw [if_neg z4, dC, if_neg (fun u => u q)]
            rfl
          · rw [if_neg z4, dR, ← hmm, if_neg (fun u => u q)]
            rfl
        · refine ⟨0, by omega, fun u => by omega, fun E => ?_, fun E => ?_⟩
          · rw [if_neg z4, dC, if_pos q]
            rfl
          · rw [if_neg z4, dR, ← hmm, if_pos q]
            rfl
    rcases d_bit h (Or.inl hcr) (k := 2052 + (768 * ctx + 256 * tr + v)) hlim (zo_ushr (zg_i D 7 8) (nI j) &&& 1) with ⟨r1, c1, x1, Z1, bit, D1, R1, t1, t2, t3, t4, t5, t6, t7⟩ | ⟨D1, R1, t1, t2, t3, t4⟩
    · rw [zf_lit] at t2
      have hbit : bit ≤ 1 := by omega
      obtain ⟨al', f1, f2, f3, f4⟩ := flag bit hbit
      have E1 : g_Mdl_codeLiteral_s_22 (nI (2052 + 768 * ctx)) (nI mC) (k1 + 1) (nI al) (nI v) (nI (j + 1) - 1) D = g_Mdl_codeLiteral_s_22 (nI (2052 + 768 * ctx)) (nI mC) k1 (nI al') (nI (2 * v + bit)) (nI j - 1) D1 := by
        rw [← f3 D1, g_Mdl_codeLiteral_s_22, e0, if_neg e1, iC, Option.bind_some, ix, t1, Option.bind_some, y_dbl, e3]
      have E2 : g_R_literal_84 (nI (768 * ctx)) (nI mR) (k2 + 1) (nI al) (nI v) (nI (j + 1) - 1) R = g_R_literal_84 (nI (768 * ctx)) (nI mR) k2 (nI al') (nI (2 * v + bit)) (nI j - 1) R1 := by
        rw [← f4 R1, g_R_literal_84, e0, if_neg e1, iR, Option.bind_some, t2, Option.bind_some, y_dbl, e3]
      rw [E1, E2]
      have tz : tot zKL Z1 ≤ tot zKL Z ∧ tot zFs Z1 ≤ tot zFs Z := by
        rcases t5 with ⟨_, q⟩ | ⟨_, q⟩
        · rw [q, tot_put zKL_nd, tot_put zFs_nd, if_neg nk, if_neg nf]
          constructor <;> omega
        · rw [q]
          exact ⟨Nat.le_refl _, Nat.le_refl _⟩
      rcases d_litL hctx hmC hmR j k1 k2 al' (2 * v + bit) r1 c1 x1 Z1 D1 R1 (by omega) (by omega) (by omega) f1 f2 (by omega) (by omega) t3 (t6 hcr) with ⟨v', r', c', x', Z', D', R', u1, u2, u3, u4, u5, u6, u7, u8, u9⟩ | ⟨v', D', R', u1, u2, u3, u4, u5, u6⟩
      · exact Or.inl ⟨v', r', c', x', Z', D', R', u1, u2, u3, u4, u5, t4.trans u6, u7, Nat.le_trans u8 tz.1, Nat.le_trans u9 tz.2⟩
      · exact Or.inr ⟨v', D', R', u1, u2, u3, u4, u5, t4.trans u6⟩
    · right
      rw [zf_lit] at t2
      obtain ⟨al', f1, f2, f3, f4⟩ := flag 0 (by omega)
      have f3 := f3 D1
      have f4 := f4 R1
      rw [z0] at f3 f4
      have d0 : 2 * nI v + 0 = nI (2 * v + 0) := y_dbl v 0
      have E1 : g_Mdl_codeLiteral_s_22 (nI (2052 + 768 * ctx)) (nI mC) (k1 + 1) (nI al) (nI v) (nI (j + 1) - 1) D = g_Mdl_codeLiteral_s_22 (nI (2052 + 768 * ctx)) (nI mC) k1 (nI al') (nI (2 * v + 0)) (nI j - 1) D1 := by
        rw [← f3, g_Mdl_codeLiteral_s_22, e0, if_neg e1, iC, Option.bind_some, ix, t1]
        simp only [Option.bind_some, d0, e3]
      have E2 : g_R_literal_84 (nI (768 * ctx)) (nI mR) (k2 + 1) (nI al) (nI v) (nI (j + 1) - 1) R = g_R_literal_84 (nI (768 * ctx)) (nI mR) k2 (nI al') (nI (2 * v + 0)) (nI j - 1) R1 := by
        rw [← f4, g_R_literal_84, e0, if_neg e1, iR, Option.bind_some, t2]
        simp only [Option.bind_some, d0, e3]
      rw [E1, E2]
      obtain ⟨v', w1, w2, w3, w4⟩ := x_litL D1 R1 (nI (2052 + 768 * ctx)) (nI (768 * ctx)) (nI mC) (nI mR) t3.bC t3.bR j k1 k2 (nI al') (nI al') (2 * v + 0) (by omega) (by omega) (by omega) (by omega) (by omega)
      exact ⟨v', D1, R1, w1, w2, w3, w4, t3, t4⟩
