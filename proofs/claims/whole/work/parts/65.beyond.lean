abbrev zBk (N S E s r c : Nat) : Prop := Nonempty ((r ≤ c) ∧ (c - r + 2 ≤ (E + 2) * 256 ^ s) ∧ (s ≤ 7) ∧ (2 ^ 23 * 256 ^ s * 31 ^ S ≤ r * 2 ^ N * 32 ^ S))
theorem zBk.rc {N S E s r c : Nat} (h : zBk N S E s r c) : r ≤ c := h.elim fun q => q.1
theorem zBk.dd {N S E s r c : Nat} (h : zBk N S E s r c) : c - r + 2 ≤ (E + 2) * 256 ^ s := h.elim fun q => q.2.1
theorem zBk.s7 {N S E s r c : Nat} (h : zBk N S E s r c) : s ≤ 7 := h.elim fun q => q.2.2.1
theorem zBk.pr {N S E s r c : Nat} (h : zBk N S E s r c) : 2 ^ 23 * 256 ^ s * 31 ^ S ≤ r * 2 ^ N * 32 ^ S := h.elim fun q => q.2.2.2
theorem pw31 (u v M : Nat) (hu : u = 64) (hv : v = 15) (hM : M = u * 8 + v) : 32 ^ M ≤ 2 ^ 25 * 31 ^ M := by
  have a1 : 32 ^ u ≤ 8 * 31 ^ u := by
    subst hu
    decide +kernel
  have a2 : 32 ^ v ≤ 2 * 31 ^ v := by
    subst hv
    decide +kernel
  have e1 : 32 ^ M = (32 ^ u) ^ 8 * 32 ^ v := by rw [hM, Nat.pow_add, Nat.pow_mul]
  have e2 : 31 ^ M = (31 ^ u) ^ 8 * 31 ^ v := by rw [hM, Nat.pow_add, Nat.pow_mul]
  have a3 : (32 ^ u) ^ 8 ≤ (8 * 31 ^ u) ^ 8 := Nat.pow_le_pow_left a1 8
  rw [Nat.mul_pow] at a3
  rw [e1, e2]
  calc (32 ^ u) ^ 8 * 32 ^ v ≤ (8 ^ 8 * (31 ^ u) ^ 8) * (2 * 31 ^ v) := Nat.mul_le_mul a3 a2
    _ = 2 ^ 25 * ((31 ^ u) ^ 8 * 31 ^ v) := by
      rw [show 2 ^ 25 = 8 ^ 8 * 2 by decide]
      ac_rfl
theorem pw31' {S : Nat} (h : S ≤ 527) : 32 ^ S ≤ 2 ^ 25 * 31 ^ S := by
  obtain ⟨M, hM⟩ : ∃ M, M = 527 := ⟨_, rfl⟩
  have h1 := pw31 64 15 M rfl rfl (by omega)
  have e1 : 32 ^ M = 32 ^ S * 32 ^ (M - S) := by rw [← Nat.pow_add]; congr 1; omega
  have e2 : 31 ^ M = 31 ^ S * 31 ^ (M - S) := by rw [← Nat.pow_add]; congr 1; omega
  rw [e1, e2] at h1
  have h2 : 31 ^ (M - S) ≤ 32 ^ (M - S) := Nat.pow_le_pow_left (by omega) _
  have h3 : 32 ^ S * 31 ^ (M - S) ≤ (2 ^ 25 * 31 ^ S) * 31 ^ (M - S) := by
    calc 32 ^ S * 31 ^ (M - S) ≤ 32 ^ S * 32 ^ (M - S) := Nat.mul_le_mul_left _ h2
      _ ≤ 2 ^ 25 * (31 ^ S * 31 ^ (M - S)) := h1
      _ = (2 ^ 25 * 31 ^ S) * 31 ^ (M - S) := by rw [Nat.mul_assoc]
  exact Nat.le_of_mul_le_mul_right h3 (Nat.pow_pos (by omega))
theorem zBk_r {N S E s r c : Nat} (h : zBk N S E s r c) (hs : s = 7) (hN : N ≤ 30) (hS : S ≤ 527) : 2 ^ 24 ≤ r := by
  have h1 := h.pr
  have h2 := pw31' hS
  have h3 : 2 ^ N ≤ 2 ^ 30 := Nat.pow_le_pow_right (by omega) hN
  have h5 : 0 < 31 ^ S := Nat.pow_pos (by omega)
  subst hs
  have h4 : 2 ^ 79 * 31 ^ S ≤ (r * 2 ^ 55) * 31 ^ S := by
    calc 2 ^ 79 * 31 ^ S = 2 ^ 23 * 256 ^ 7 * 31 ^ S := by rw [show 2 ^ 79 = 2 ^ 23 * 256 ^ 7 by decide]
      _ ≤ r * 2 ^ N * 32 ^ S := h1
      _ ≤ r * 2 ^ 30 * 32 ^ S := Nat.mul_le_mul_right _ (Nat.mul_le_mul_left _ h3)
      _ ≤ r * 2 ^ 30 * (2 ^ 25 * 31 ^ S) := Nat.mul_le_mul_left _ h2
      _ = (r * 2 ^ 55) * 31 ^ S := by
        rw [show 2 ^ 55 = 2 ^ 30 * 2 ^ 25 by decide]
        ac_rfl
  have := Nat.le_of_mul_le_mul_right h4 h5
  omega
theorem zBk_ov {N S E s r c : Nat} (h : zBk N S E s r c) (hr : r < 2 ^ 32) (hN : N ≤ 30) (hS : S ≤ 527) (hE : E ≤ 26) : c < r ∨ c < 2 ^ 54 ∨ 2 ^ 24 ≤ r := by
  have h7 := h.s7
  have h1 := h.dd
  have h2 := h.rc
  by_cases hs : s = 7
  · exact Or.inr (Or.inr (zBk_r h hs hN hS))
  · right
    left
    have h3 : 256 ^ s ≤ 256 ^ 6 := Nat.pow_le_pow_right (by omega) (by omega)
    have h4 : (E + 2) * 256 ^ s ≤ 28 * 256 ^ 6 := Nat.mul_le_mul (by omega) h3
    omega
theorem d_bitB {n m g b r c x e lc lp pb st N S E s : Nat} {Z : Nat → Nat} {D R : zx_D} (h : zA n m g b r c x e lc lp pb st Z D R) (hB : zBk N S E s r c) (hN : N ≤ 30) (hS : S ≤ 527) (hE : E ≤ 26) {k : Nat} (hk : k < 2052 + 768 * 2 ^ (lc + lp)) (w : Int32) :
    (∃ r' c' x' s' D' R', g_Src_codeBit (nI k) w D = some (1, D') ∧ g_R_bit (nI (zf k)) R = some (1, R') ∧ zA n m g b r' c' x' e lc lp pb st Z D' R' ∧ zQ D D' R R' ∧ zBk (N + 1) (S + Z k) E s' r' c') ∨
    (∃ D' R', g_Src_codeBit (nI k) w D = some (0, D') ∧ g_R_bit (nI (zf k)) R = some (0, R') ∧ zX n m g b D' R' ∧ zQ D D' R R') := by
  have hov := zBk_ov hB h.hr2 hN hS hE
  rcases d_bit h hov hk w with ⟨r1, c1, x1, Z1, bit, D1, R1, t1, t2, t3, t4, t5, t6, t7⟩ | hx
  · left
    obtain ⟨rfl, u2, sb, u3, u4, u5, u6⟩ := t7 hB.rc
    rcases t5 with ⟨q1, _⟩ | ⟨_, q2⟩
    · exact absurd q1 (by omega)
    · rw [q2] at t3
      have hs7 : s + sb ≤ 7 := by
        have := hB.s7
        by_cases hs : s = 7
        · have := u4 (zBk_r hB hs hN hS)
          omega
        · omega
      refine ⟨r1, c1, x1, s + sb, D1, R1, t1, t2, t3, t4, u2, ?_, hs7, ?_⟩
      · have hd := hB.dd
        have h01 : sb = 0 ∨ sb = 1 := by omega
        rcases h01 with rfl | rfl
        · show c1 - r1 + 2 ≤ (E + 2) * 256 ^ s
          rw [Nat.pow_zero, Nat.one_mul] at u6
          generalize (E + 2) * 256 ^ s = t at *
          omega
        · have e : (E + 2) * 256 ^ (s + 1) = ((E + 2) * 256 ^ s) * 256 := by rw [show 256 ^ (s + 1) = 256 ^ s * 256 from Nat.pow_succ _ _, Nat.mul_assoc]
          rw [e]
          rw [Nat.pow_one] at u6
          generalize (E + 2) * 256 ^ s = t at *
          omega
      · calc 2 ^ 23 * 256 ^ (s + sb) * 31 ^ (S + Z k) = (2 ^ 23 * 256 ^ s * 31 ^ S) * (256 ^ sb * 31 ^ (Z k)) := by
              rw [Nat.pow_add 256 s sb, Nat.pow_add 31 S (Z k)]
              ac_rfl
          _ ≤ (r * 2 ^ N * 32 ^ S) * (256 ^ sb * 31 ^ (Z k)) := Nat.mul_le_mul_right _ hB.pr
          _ = (r * 256 ^ sb * 31 ^ (Z k)) * (2 ^ N * 32 ^ S) := by ac_rfl
          _ ≤ (2 * r1 * 32 ^ (Z k)) * (2 ^ N * 32 ^ S) := Nat.mul_le_mul_right _ u5
          _ = r1 * 2 ^ (N + 1) * 32 ^ (S + Z k) := by
            rw [show 2 ^ (N + 1) = 2 ^ N * 2 from Nat.pow_succ _ _, Nat.pow_add 32 S (Z k)]
            ac_rfl
  · exact Or.inr hx
theorem d_evenB {n m g b r c x e lc lp pb st N S E s : Nat} {Z : Nat → Nat} {D R : zx_D} (h : zA n m g b r c x e lc lp pb st Z D R) (hB : zBk N S E s r c) (hN : N ≤ 30) (hS : S ≤ 527) (hE : E ≤ 26) (w : Int32) :
    (∃ r' c' x' s' D' R', g_Src_codeEvenBit w D = some (1, D') ∧ g_R_even R = some (1, R') ∧ zA n m g b r' c' x' e lc lp pb st Z D' R' ∧ zQ D D' R R' ∧ zBk (N + 1) (S + 1) (E + 1) s' r' c') ∨
    (∃ D' R', g_Src_codeEvenBit w D = some (0, D') ∧ g_R_even R = some (0, R') ∧ zX n m g b D' R' ∧ zQ D D' R R') := by
  have hov := zBk_ov hB h.hr2 hN hS hE
  rcases d_even h hov w with ⟨r1, c1, x1, bit, D1, R1, t1, t2, t3, t4, t5, t6, t7⟩ | hx
  · left
    obtain ⟨rfl, u2, sb, u3, u4, u5, u6⟩ := t7 hB.rc
    have hs7 : s + sb ≤ 7 := by
      have := hB.s7
      by_cases hs : s = 7
      · have := u4 (zBk_r hB hs hN hS)
        omega
      · omega
    refine ⟨r1, c1, x1, s + sb, D1, R1, t1, t2, t3, t4, u2, ?_, hs7, ?_⟩
    · have hd := hB.dd
      have h01 : sb = 0 ∨ sb = 1 := by omega
      have hp : 1 ≤ 256 ^ s := Nat.one_le_pow _ _ (by omega)
      have e0 : (E + 1 + 2) * 256 ^ s = (E + 2) * 256 ^ s + 256 ^ s := by
        rw [show E + 1 + 2 = (E + 2) + 1 by omega, Nat.add_mul, Nat.one_mul]
      rcases h01 with rfl | rfl
      · show c1 - r1 + 2 ≤ (E + 1 + 2) * 256 ^ s
        rw [e0]
        rw [Nat.pow_zero, Nat.one_mul] at u6
        omega
      · have e : (E + 1 + 2) * 256 ^ (s + 1) = ((E + 1 + 2) * 256 ^ s) * 256 := by rw [show 256 ^ (s + 1) = 256 ^ s * 256 from Nat.pow_succ _ _, Nat.mul_assoc]
        rw [e, e0]
        rw [Nat.pow_one] at u6
        omega
    · calc 2 ^ 23 * 256 ^ (s + sb) * 31 ^ (S + 1) = (2 ^ 23 * 256 ^ s * 31 ^ S) * (256 ^ sb * 31) := by
            rw [show 31 ^ (S + 1) = 31 ^ S * 31 from Nat.pow_succ _ _, Nat.pow_add 256 s sb]
            ac_rfl
        _ ≤ (r * 2 ^ N * 32 ^ S) * (256 ^ sb * 31) := Nat.mul_le_mul_right _ hB.pr
        _ = (r * 256 ^ sb * 31) * (2 ^ N * 32 ^ S) := by ac_rfl
        _ ≤ (2 * r1 * 32) * (2 ^ N * 32 ^ S) := Nat.mul_le_mul_right _ u5
        _ = r1 * 2 ^ (N + 1) * 32 ^ (S + 1) := by
          rw [show 2 ^ (N + 1) = 2 ^ N * 2 from Nat.pow_succ _ _, show 32 ^ (S + 1) = 32 ^ S * 32 from Nat.pow_succ _ _]
          ac_rfl
  · exact Or.inr hx
theorem zBk_0 {r : Nat} (hr : 2 ^ 23 ≤ r) : zBk 0 0 0 0 r r := ⟨Nat.le_refl _, by omega, by omega, by omega⟩
