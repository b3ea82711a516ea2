def zKL : List Nat := List.range 192 ++ ((List.range 48).map (fun k => k + 384) ++ [946, 947, 1205, 1207, 1211, 1219, 1235, 1267, 1331, 1459])
def zFs : List Nat := [2037, 2039, 2043, 2051]
theorem zKL_mem {k : Nat} : k ∈ zKL ↔ k < 192 ∨ (384 ≤ k ∧ k < 432) ∨ k = 946 ∨ k = 947 ∨ k = 1205 ∨ k = 1207 ∨ k = 1211 ∨ k = 1219 ∨ k = 1235 ∨ k = 1267 ∨ k = 1331 ∨ k = 1459 := by
  unfold zKL
  simp only [List.mem_append, List.mem_range, List.mem_map, List.mem_cons, List.not_mem_nil, or_false]
  constructor
  · rintro (h | ⟨a, h1, h2⟩ | h)
    · exact Or.inl h
    · exact Or.inr (Or.inl (by omega))
    · exact Or.inr (Or.inr h)
  · rintro (h | h | h)
    · exact Or.inl h
    · exact Or.inr (Or.inl ⟨k - 384, by omega, by omega⟩)
    · exact Or.inr (Or.inr h)
theorem zFs_mem {k : Nat} : k ∈ zFs ↔ k = 2037 ∨ k = 2039 ∨ k = 2043 ∨ k = 2051 := by
  unfold zFs
  simp
theorem zKL_nd : zKL.Nodup := by decide +kernel
theorem zFs_nd : zFs.Nodup := by decide
theorem zPh_0 {A : List Nat} {base kk : Nat} (hn : A.Nodup) (h : ∀ v, 1 ≤ v → v < 2 ^ kk → base + v ∉ A) : zPh A base (fun _ _ => 0) kk := by
  refine ⟨hn, fun v j hj h1 h2 => ⟨?_, Nat.le_refl _⟩⟩
  have p1 : 1 ≤ 2 ^ (kk - (j + 1)) := Nat.one_le_two_pow
  have p2 : 2 ^ (kk - j) ≤ 2 ^ kk := Nat.pow_le_pow_right (by omega) (by omega)
  rw [if_neg (h v (by omega) (by omega))]
  exact Nat.le_refl _
def zphL (v j : Nat) : Nat := if v + 1 = 2 ^ (9 - j) then 1 else 0
theorem zPh_L : zPh zKL 1204 zphL 8 := by
  refine ⟨zKL_nd, fun v j hj h1 h2 => ?_⟩
  have hj8 : j = 0 ∨ j = 1 ∨ j = 2 ∨ j = 3 ∨ j = 4 ∨ j = 5 ∨ j = 6 ∨ j = 7 := by omega
  have key : (1204 + v ∈ zKL) ↔ (v = 1 ∨ v = 3 ∨ v = 7 ∨ v = 15 ∨ v = 31 ∨ v = 63 ∨ v = 127 ∨ v = 255) := by
    rw [zKL_mem]
    omega
  unfold zphL
  rcases hj8 with rfl | rfl | rfl | rfl | rfl | rfl | rfl | rfl
  all_goals
    simp only [key]
    constructor
    · split <;> split <;> split <;> omega
    · split <;> split <;> omega
theorem d_len {n m g b e lc lp pb st base base' q r c x : Nat} {Z : Nat → Nat} {D R : zx_D} (hq : q < 16) (hbl : base + 514 ≤ 2052) (hb : ∀ i, i < 514 → zf (base + i) = base' + i) (h : zA n m g b r c x e lc lp pb st Z D R) (hcr : c < r) :
    (∃ t r' c' x' Z' D' R', 2 ≤ t ∧ t ≤ 273 ∧ g_Mdl_codeLength_s (nI base) (nI q) D = some (nI t, D') ∧ g_R_lengthTaken (nI base') (nI q) R = some (nI t, R') ∧ zA n m g b r' c' x' e lc lp pb st Z' D' R' ∧ zQ D D' R R' ∧ c' < r' ∧ (∀ A : List Nat, A.Nodup → (∀ i, i < 514 → base + i ∉ A) → tot A Z' ≤ tot A Z) ∧ (base = 946 → tot zKL Z' ≤ tot zKL Z + 1)) ∨
    (∃ t D' R', 2 ≤ t ∧ t ≤ 273 ∧ g_Mdl_codeLength_s (nI base) (nI q) D = some (nI t, D') ∧ g_R_lengthTaken (nI base') (nI q) R = some (nI t, R') ∧ zX n m g b D' R' ∧ zQ D D' R R') := by
  have z4 : ¬ (1 : Int32) = 0 := by decide
  have hb0 : nI (zf base) = nI base' := by
    have := hb 0 (by omega)
    rw [Nat.add_zero, Nat.add_zero] at this
    rw [this]
  have hb1 : nI base' + 1 = nI (zf (base + 1)) := by rw [hb 1 (by omega), y_1]
  have w1 : ∀ E : zx_D, ∃ w, ((if 10 ≤ zg_i E 7 9 then some 1 else some 0) : Option Int32) = some w := fun E => by
    by_cases t : (10 : Int32) ≤ zg_i E 7 9
    · exact ⟨1, by rw [if_pos t]⟩
    · exact ⟨0, by rw [if_neg t]⟩
  have w2 : ∀ E : zx_D, ∃ w, ((if 18 ≤ zg_i E 7 9 then some 1 else some 0) : Option Int32) = some w := fun E => by
    by_cases t : (18 : Int32) ≤ zg_i E 7 9
    · exact ⟨1, by rw [if_pos t]⟩
    · exact ⟨0, by rw [if_neg t]⟩
  have i1 : nI base + 2 + 8 * nI q = nI (base + 2 + 8 * q) := by rw [show (8 : Int32) = nI 8 from rfl, y_mul, show (2 : Int32) = nI 2 from rfl, y_add, y_add]
  have i2 : nI base + 130 + 8 * nI q = nI (base + 130 + 8 * q) := by rw [show (8 : Int32) = nI 8 from rfl, y_mul, show (130 : Int32) = nI 130 from rfl, y_add, y_add]
  have i3 : nI base + 258 = nI (base + 258) := y_add _ _
  have k1 : nI base' + 2 + 8 * nI q = nI (base' + 2 + 8 * q) := by rw [show (8 : Int32) = nI 8 from rfl, y_mul, show (2 : Int32) = nI 2 from rfl, y_add, y_add]
  have k2 : nI base' + 130 + 8 * nI q = nI (base' + 130 + 8 * q) := by rw [show (8 : Int32) = nI 8 from rfl, y_mul, show (130 : Int32) = nI 130 from rfl, y_add, y_add]
  have k3 : nI base' + 258 = nI (base' + 258) := y_add _ _
  have pw : 0 < 2 ^ (lc + lp) := Nat.two_pow_pos _
  have e2 : ∀ t, 2 + nI t = nI (2 + t) := fun t => y_add 2 t
  have e10 : ∀ t, 10 + nI t = nI (10 + t) := fun t => y_add 10 t
  have e18 : ∀ t, 18 + nI t = nI (18 + t) := fun t => y_add 18 t
  obtain ⟨wa, hwa⟩ := w1 D
  rcases d_bit h (Or.inl hcr) (k := base) (by omega) wa with ⟨r1, c1, x1, Z1, bit, D1, R1, t1, t2, t3, t4, t5, t6, t7⟩ | ⟨D1, R1, t1, t2, t3, t4⟩
  · rw [hb0] at t2
    rcases t5 with ⟨rfl, hZ1⟩ | ⟨rfl, hZ1⟩
    · have t1 : g_Src_codeBit (nI base) wa D = some (0, D1) := t1
      have t2 : g_R_bit (nI base') R = some (0, R1) := t2
      rcases d_tree (base := base + 2 + 8 * q) (base' := base' + 2 + 8 * q) (kk := 3) (zg_i D1 7 9 - 2) (by omega) (by omega) (fun v hv => by have := hb (2 + 8 * q + v) (by omega); rw [show base + 2 + 8 * q + v = base + (2 + 8 * q + v) by omega, this]; omega) t3 (t6 hcr) with ⟨t, r', c', x', Z', D', R', u1, u2, u3, u4, u5, u6, u7⟩ | ⟨t, D', R', u1, u2, u3, u4, u5⟩
      · left
        have u2 : g_Mdl_codeTree_s (nI (base + 2 + 8 * q)) 3 (zg_i D1 7 9 - 2) D1 = _ := u2
        have u3 : g_R_tree (nI (base' + 2 + 8 * q)) 3 R1 = _ := u3
        refine ⟨2 + t, r', c', x', Z', D', R', by omega, by omega, ?_, ?_, u4, t4.trans u5, u6, fun A hA hn => ?_, fun hbs => ?_⟩
        · simp only [Option.bind_some, ↓reduceIte, not_true_eq_false, not_false_eq_true, y_1, g_Mdl_codeLength_s, hwa, t1, i1, u2, e2]
        · simp only [Option.bind_some, ↓reduceIte, not_true_eq_false, not_false_eq_true, y_1, g_R_lengthTaken, t2, k1, u3, e2]
        · have := u7 A _ (zPh_0 hA (fun v h1 h2 => by have := hn (2 + 8 * q + v) (by omega); rwa [show base + (2 + 8 * q + v) = base + 2 + 8 * q + v by omega] at this))
          rw [hZ1, tot_put hA, if_neg (by have := hn 0 (by omega); exact this)] at this
          exact this
        · have := u7 zKL _ (zPh_0 zKL_nd (fun v h1 h2 q => by rw [zKL_mem] at q; omega))
          rw [hZ1, tot_put zKL_nd] at this
          have e : (if base ∈ zKL then 1 else 0) ≤ 1 := by split <;> omega
          omega
      · right
        have u2 : g_Mdl_codeTree_s (nI (base + 2 + 8 * q)) 3 (zg_i D1 7 9 - 2) D1 = _ := u2
        have u3 : g_R_tree (nI (base' + 2 + 8 * q)) 3 R1 = _ := u3
        refine ⟨2 + t, D', R', by omega, by omega, ?_, ?_, u4, t4.trans u5⟩
        · simp only [Option.bind_some, ↓reduceIte, not_true_eq_false, not_false_eq_true, y_1, g_Mdl_codeLength_s, hwa, t1, i1, u2, e2]
        · simp only [Option.bind_some, ↓reduceIte, not_true_eq_false, not_false_eq_true, y_1, g_R_lengthTaken, t2, k1, u3, e2]
    · have t1 : g_Src_codeBit (nI base) wa D = some (1, D1) := t1
      have t2 : g_R_bit (nI base') R = some (1, R1) := t2
      obtain ⟨wb, hwb⟩ := w2 D1
      rcases d_bit t3 (Or.inl (t6 hcr)) (k := base + 1) (by omega) wb with ⟨r2, c2, x2, Z2, bit, D2, R2, s1, s2, s3, s4, s5, s6, s7⟩ | ⟨D2, R2, s1, s2, s3, s4⟩
      · rw [← hb1] at s2
        have ba : nI base + 1 = nI (base + 1) := y_1 base
        rw [← ba] at s1
        rcases s5 with ⟨rfl, hZ2⟩ | ⟨rfl, hZ2⟩
        · have s1 : g_Src_codeBit (nI base + 1) wb D1 = some (0, D2) := s1
          have s2 : g_R_bit (nI base' + 1) R1 = some (0, R2) := s2
          rcases d_tree (base := base + 130 + 8 * q) (base' := base' + 130 + 8 * q) (kk := 3) (zg_i D2 7 9 - 10) (by omega) (by omega) (fun v hv => by have := hb (130 + 8 * q + v) (by omega); rw [show base + 130 + 8 * q + v = base + (130 + 8 * q + v) by omega, this]; omega) s3 (s6 (t6 hcr)) with ⟨t, r', c', x', Z', D', R', u1, u2, u3, u4, u5, u6, u7⟩ | ⟨t, D', R', u1, u2, u3, u4, u5⟩
          · left
            have u2 : g_Mdl_codeTree_s (nI (base + 130 + 8 * q)) 3 (zg_i D2 7 9 - 10) D2 = _ := u2
            have u3 : g_R_tree (nI (base' + 130 + 8 * q)) 3 R2 = _ := u3
            refine ⟨10 + t, r', c', x', Z', D', R', by omega, by omega, ?_, ?_, u4, t4.trans (s4.trans u5), u6, fun A hA hn => ?_, fun hbs => ?_⟩
            · simp only [g_Mdl_codeLength_s, hwa, t1, z4, hwb, s1, i2, u2, e10, Option.bind_some, ↓reduceIte, not_true_eq_false, not_false_eq_true]
            · simp only [g_R_lengthTaken, t2, z4, s2, k2, u3, e10, Option.bind_some, ↓reduceIte, not_true_eq_false, not_false_eq_true]
            · have := u7 A _ (zPh_0 hA (fun v h1 h2 => by have := hn (130 + 8 * q + v) (by omega); rwa [show base + (130 + 8 * q + v) = base + 130 + 8 * q + v by omega] at this))
              rw [hZ2, tot_put hA, if_neg (hn 1 (by omega)), hZ1] at this
              exact this
            · have := u7 zKL _ (zPh_0 zKL_nd (fun v h1 h2 q => by rw [zKL_mem] at q; omega))
              rw [hZ2, tot_put zKL_nd, hZ1] at this
              have e : (if base + 1 ∈ zKL then 1 else 0) ≤ 1 := by split <;> omega
              omega
          · right
            have u2 : g_Mdl_codeTree_s (nI (base + 130 + 8 * q)) 3 (zg_i D2 7 9 - 10) D2 = _ := u2
            have u3 : g_R_tree (nI (base' + 130 + 8 * q)) 3 R2 = _ := u3
            refine ⟨10 + t, D', R', by omega, by omega, ?_, ?_, u4, t4.trans (s4.trans u5)⟩
            · simp only [g_Mdl_codeLength_s, hwa, t1, z4, hwb, s1, i2, u2, e10, Option.bind_some, ↓reduceIte, not_true_eq_false, not_false_eq_true]
            · simp only [g_R_lengthTaken, t2, z4, s2, k2, u3, e10, Option.bind_some, ↓reduceIte, not_true_eq_false, not_false_eq_true]
        · have s1 : g_Src_codeBit (nI base + 1) wb D1 = some (1, D2) := s1
          have s2 : g_R_bit (nI base' + 1) R1 = some (1, R2) := s2
          rcases d_tree (base := base + 258) (base' := base' + 258) (kk := 8) (zg_i D2 7 9 - 18) (by omega) (by omega) (fun v hv => by have := hb (258 + v) (by omega); rw [show base + 258 + v = base + (258 + v) by omega, this]; omega) s3 (s6 (t6 hcr)) with ⟨t, r', c', x', Z', D', R', u1, u2, u3, u4, u5, u6, u7⟩ | ⟨t, D', R', u1, u2, u3, u4, u5⟩
          · left
            have u2 : g_Mdl_codeTree_s (nI (base + 258)) 8 (zg_i D2 7 9 - 18) D2 = _ := u2
            have u3 : g_R_tree (nI (base' + 258)) 8 R2 = _ := u3
            refine ⟨18 + t, r', c', x', Z', D', R', by omega, by omega, ?_, ?_, u4, t4.trans (s4.trans u5), u6, fun A hA hn => ?_, fun hbs => ?_⟩
            · simp only [g_Mdl_codeLength_s, hwa, t1, z4, hwb, s1, i3, u2, e18, Option.bind_some, ↓reduceIte, not_true_eq_false, not_false_eq_true]
            · simp only [g_R_lengthTaken, t2, z4, s2, k3, u3, e18, Option.bind_some, ↓reduceIte, not_true_eq_false, not_false_eq_true]
            · have := u7 A _ (zPh_0 hA (fun v h1 h2 => by have := hn (258 + v) (by omega); rwa [show base + (258 + v) = base + 258 + v by omega] at this))
              rw [hZ2, hZ1] at this
              exact this
            · subst hbs
              have := u7 zKL zphL zPh_L
              rw [hZ2, hZ1] at this
              exact this
          · right
            have u2 : g_Mdl_codeTree_s (nI (base + 258)) 8 (zg_i D2 7 9 - 18) D2 = _ := u2
            have u3 : g_R_tree (nI (base' + 258)) 8 R2 = _ := u3
            refine ⟨18 + t, D', R', by omega, by omega, ?_, ?_, u4, t4.trans (s4.trans u5)⟩
            · simp only [g_Mdl_codeLength_s, hwa, t1, z4, hwb, s1, i3, u2, e18, Option.bind_some, ↓reduceIte, not_true_eq_false, not_false_eq_true]
            · simp only [g_R_lengthTaken, t2, z4, s2, k3, u3, e18, Option.bind_some, ↓reduceIte, not_true_eq_false, not_false_eq_true]
      · right
        rw [← hb1] at s2
        have ba : nI base + 1 = nI (base + 1) := y_1 base
        rw [← ba] at s1
        obtain ⟨t, v1, v2, v3⟩ := x_tree D2 R2 (nI base + 130 + 8 * nI q) (nI base' + 130 + 8 * nI q) 3 (zg_i D2 7 9 - 10) (by omega) s3.bC s3.bR
        have v2 : g_Mdl_codeTree_s (nI base + 130 + 8 * nI q) 3 (zg_i D2 7 9 - 10) D2 = _ := v2
        have v3 : g_R_tree (nI base' + 130 + 8 * nI q) 3 R2 = _ := v3
        refine ⟨10 + t, D2, R2, by omega, by omega, ?_, ?_, s3, t4.trans s4⟩
        · simp only [g_Mdl_codeLength_s, hwa, t1, z4, hwb, s1, v2, e10, Option.bind_some, ↓reduceIte, not_true_eq_false, not_false_eq_true]
        · simp only [g_R_lengthTaken, t2, z4, s2, v3, e10, Option.bind_some, ↓reduceIte, not_true_eq_false, not_false_eq_true]
  · right
    rw [hb0] at t2
    obtain ⟨t, v1, v2, v3⟩ := x_tree D1 R1 (nI base + 2 + 8 * nI q) (nI base' + 2 + 8 * nI q) 3 (zg_i D1 7 9 - 2) (by omega) t3.bC t3.bR
    have v2 : g_Mdl_codeTree_s (nI base + 2 + 8 * nI q) 3 (zg_i D1 7 9 - 2) D1 = _ := v2
    have v3 : g_R_tree (nI base' + 2 + 8 * nI q) 3 R1 = _ := v3
    refine ⟨2 + t, D1, R1, by omega, by omega, ?_, ?_, t3, t4⟩
    · simp only [g_Mdl_codeLength_s, hwa, t1, v2, e2, Option.bind_some, ↓reduceIte, not_true_eq_false, not_false_eq_true]
    · simp only [g_R_lengthTaken, t2, v3, e2, Option.bind_some, ↓reduceIte, not_true_eq_false, not_false_eq_true]
theorem x_len (D R : zx_D) (base base' : Int32) (q q' : Int32) (hC : ¬ zg_i D 5 2 = 0) (hR : ¬ zg_i R 0 22 = 0) : ∃ t, 2 ≤ t ∧ t ≤ 273 ∧ g_Mdl_codeLength_s base q D = some (nI t, D) ∧ g_R_lengthTaken base' q' R = some (nI t, R) := by
  have e2 : ∀ t, 2 + nI t = nI (2 + t) := fun t => y_add 2 t
  obtain ⟨t, v1, v2, v3⟩ := x_tree D R (base + 2 + 8 * q) (base' + 2 + 8 * q') 3 (zg_i D 7 9 - 2) (by omega) hC hR
  have v2 : g_Mdl_codeTree_s (base + 2 + 8 * q) 3 (zg_i D 7 9 - 2) D = _ := v2
  have v3 : g_R_tree (base' + 2 + 8 * q') 3 R = _ := v3
  refine ⟨2 + t, by omega, by omega, ?_, ?_⟩
  · by_cases hw : (10 : Int32) ≤ zg_i D 7 9
    · simp only [g_Mdl_codeLength_s, hw, x_bitC _ _ hC, v2, e2, Option.bind_some, ↓reduceIte, not_true_eq_false, not_false_eq_true]
    · simp only [g_Mdl_codeLength_s, hw, x_bitC _ _ hC, v2, e2, Option.bind_some, ↓reduceIte, not_true_eq_false, not_false_eq_true]
  · simp only [g_R_lengthTaken, x_bitR _ hR, v3, e2, Option.bind_some, ↓reduceIte, not_true_eq_false, not_false_eq_true]
