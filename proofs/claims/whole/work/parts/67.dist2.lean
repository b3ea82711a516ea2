theorem v_lshl {u k : Nat} (hu : u ≤ 3) (hk : k ≤ 30) : zo_lshl (nL u) (nI k) = nL (u * 2 ^ k) := by
  have h1 : u = 0 ∨ u = 1 ∨ u = 2 ∨ u = 3 := by omega
  have h2 : k = 0 ∨ k = 1 ∨ k = 2 ∨ k = 3 ∨ k = 4 ∨ k = 5 ∨ k = 6 ∨ k = 7 ∨ k = 8 ∨ k = 9 ∨ k = 10 ∨ k = 11 ∨ k = 12 ∨ k = 13 ∨ k = 14 ∨ k = 15 ∨ k = 16 ∨ k = 17 ∨ k = 18 ∨ k = 19 ∨ k = 20 ∨ k = 21 ∨ k = 22 ∨ k = 23 ∨ k = 24 ∨ k = 25 ∨ k = 26 ∨ k = 27 ∨ k = 28 ∨ k = 29 ∨ k = 30 := by omega
  rcases h1 with rfl | rfl | rfl | rfl <;> rcases h2 with rfl | rfl | rfl | rfl | rfl | rfl | rfl | rfl | rfl | rfl | rfl | rfl | rfl | rfl | rfl | rfl | rfl | rfl | rfl | rfl | rfl | rfl | rfl | rfl | rfl | rfl | rfl | rfl | rfl | rfl | rfl <;> rfl
theorem zf_slot {j : Nat} (h : j < 256) : zf (1460 + j) = 7608 + j := by
  unfold zf
  rw [if_neg (by omega), if_neg (by omega), if_pos (by omega)]
  omega
theorem zf_near {j : Nat} (h : j < 320) : zf (1716 + j) = 7864 + j := by
  unfold zf
  rw [if_neg (by omega), if_neg (by omega), if_pos (by omega)]
  omega
theorem zf_far {j : Nat} (h : j < 16) : zf (2036 + j) = 8312 + j := by
  unfold zf
  rw [if_neg (by omega), if_neg (by omega), if_neg (by omega), if_pos (by omega)]
  omega
theorem zf_copy {j : Nat} (h : j < 514) : zf (432 + j) = 6576 + j := by
  unfold zf
  rw [if_pos (by omega)]
  omega
theorem zf_rep {j : Nat} (h : j < 514) : zf (946 + j) = 7092 + j := by
  unfold zf
  rw [if_neg (by omega), if_pos (by omega)]
  omega
theorem zf_kind {j : Nat} (h : j < 432) : zf j = 6144 + j := by
  unfold zf
  rw [if_pos (by omega)]
  omega
theorem zf_lit {j : Nat} : zf (2052 + j) = j := by
  unfold zf
  rw [if_neg (by omega), if_neg (by omega), if_neg (by omega), if_neg (by omega)]
  omega
def zphF (v j : Nat) : Nat := if v + 1 = 2 ^ (5 - j) then 1 else 0
theorem zPh_F : zPh zFs 2036 zphF 4 := by
  refine ⟨zFs_nd, fun v j hj h1 h2 => ?_⟩
  have hj8 : j = 0 ∨ j = 1 ∨ j = 2 ∨ j = 3 := by omega
  have key : (2036 + v ∈ zFs) ↔ (v = 1 ∨ v = 3 ∨ v = 7 ∨ v = 15) := by
    rw [zFs_mem]
    omega
  unfold zphF
  rcases hj8 with rfl | rfl | rfl | rfl
  all_goals
    simp only [key]
    constructor
    · split <;> split <;> split <;> omega
    · split <;> split <;> omega
theorem x_evens (D R : zx_D) (kk : Nat) (x3 x5 x4 : Int64) (hk : kk ≤ 31) (hC : ¬ zg_i D 5 2 = 0) (hR : ¬ zg_i R 0 22 = 0) : ∀ (j k1 k2 : Nat) (u u2 : Int64), j + 4 ≤ kk → j < k1 → j < k2 → ∃ u' u'', g_Mdl_codeDistance_s_106 x3 x5 k1 u (nI (3 + j)) D = some (u', D) ∧ g_R_distance_97 (nI kk) x4 k2 u2 (nI (kk - j)) R = some (u'', R)
  | 0, k1 + 1, k2 + 1, u, u2, _, _, _ => by
    have e1 : nI (3 + 0) < 4 := by decide
    have e2 : nI kk ≤ nI (kk - 0) := by rw [Nat.sub_zero]; exact Int32.le_refl _
    exact ⟨u, u2, by simp only [Option.bind_some, ↓reduceIte, not_true_eq_false, not_false_eq_true, y_1, g_Mdl_codeDistance_s_106, e1], by simp only [Option.bind_some, ↓reduceIte, not_true_eq_false, not_false_eq_true, y_1, g_R_distance_97, e2]⟩
  | j + 1, k1 + 1, k2 + 1, u, u2, hj, h1, h2 => by
    have e1 : ¬ nI (3 + (j + 1)) < 4 := fun q => by have := (y_lt (b := 4) (by omega) (by omega)).mp q; omega
    have e2 : ¬ nI kk ≤ nI (kk - (j + 1)) := fun q => by have := (y_le (by omega) (by omega)).mp q; omega
    have e3 : nI (3 + (j + 1)) + (-1) = nI (3 + j) := by
      rw [← Int32.sub_eq_add_neg]
      exact y_sub (a := 3 + (j + 1)) (b := 1) (by omega)
    have e4 : kk - (j + 1) + 1 = kk - j := by omega
    obtain ⟨u', u'', w1, w2⟩ := x_evens D R kk x3 x5 x4 hk hC hR j k1 k2 (2 * u + (0 : Int32).toInt64) (2 * u2 + (0 : Int32).toInt64) (by omega) (by omega) (by omega)
    refine ⟨u', u'', ?_, ?_⟩
    · rw [g_Mdl_codeDistance_s_106, if_neg e1, x_evC _ hC, Option.bind_some, e3]
      exact w1
    · rw [g_R_distance_97, if_neg e2, x_evR hR, Option.bind_some, y_1, e4]
      exact w2
def zAft (d r c : Nat) (Z Z' : Nat → Nat) : Prop := tot zKL Z' ≤ tot zKL Z ∧ ((c < r ∧ tot zFs Z' ≤ tot zFs Z + 1) ∨ (tot zFs Z' ≤ tot zFs Z ∧ ∃ N S E s, zBk N S E s r c ∧ N ≤ 30 ∧ E ≤ 26 ∧ S ≤ 26 + tot zFs Z' ∧ 129 ≤ d ∧ (d ≤ 400 → N ≤ 7 ∧ S ≤ 3 + tot zFs Z')))
theorem d_dist {n m g b e lc lp pb st len r c x : Nat} {Z : Nat → Nat} {D R : zx_D} (hl2 : 2 ≤ len) (hl : len ≤ 273) (h79 : zg_i D 7 9 = nI len) (h : zA n m g b r c x e lc lp pb st Z D R) (hcr : c < r) (hF : tot zFs Z ≤ 400) :
    (∃ d r' c' x' Z' D' R', 1 ≤ d ∧ d < 2 ^ 34 ∧ g_Mdl_codeDistance_s D = some (nL d, D') ∧ g_R_distance (nI len) R = some (nL d, R') ∧ zA n m g b r' c' x' e lc lp pb st Z' D' R' ∧ zQ D D' R R' ∧ zAft d r' c' Z Z') ∨
    (∃ d d' D' R', g_Mdl_codeDistance_s D = some (d, D') ∧ g_R_distance (nI len) R = some (d', R') ∧ zX n m g b D' R' ∧ zQ D D' R R') := by
  have pw : 0 < 2 ^ (lc + lp) := Nat.two_pow_pos _
  obtain ⟨wq, hwq⟩ := c_slot (zg_l D 7 10) D
  obtain ⟨i, hi, hiC, hiR⟩ : ∃ i, i ≤ 3 ∧ (if (3 : Int32) < nI len - 2 then 3 else nI len - 2) = nI i ∧ ((if 5 ≤ nI len then some 3 else some (nI len - 2)) : Option Int32) = some (nI i) := by
    have e2 : nI len - 2 = nI (len - 2) := y_sub (b := 2) hl2
    by_cases t : 5 ≤ len
    · have t2 : (5 : Int32) ≤ nI len := (y_le (a := 5) (by omega) (by omega)).mpr t
      refine ⟨3, by omega, ?_, by rw [if_pos t2]; rfl⟩
      rw [e2]
      by_cases u : 3 < len - 2
      · rw [if_pos (show (3 : Int32) < nI (len - 2) from (y_lt (a := 3) (by omega) (by omega)).mpr u)]
        rfl
      · rw [if_neg (show ¬ (3 : Int32) < nI (len - 2) from fun q => u ((y_lt (a := 3) (by omega) (by omega)).mp q)), show len - 2 = 3 by omega]
    · have t2 : ¬ (5 : Int32) ≤ nI len := fun q => t ((y_le (a := 5) (by omega) (by omega)).mp q)
      refine ⟨len - 2, by omega, ?_, by rw [if_neg t2, e2]⟩
      rw [e2, if_neg (show ¬ (3 : Int32) < nI (len - 2) from fun q => by have := (y_lt (a := 3) (by omega) (by omega)).mp q; omega)]
  have bC : 1460 + 64 * nI i = nI (1460 + 64 * i) := by rw [show (64 : Int32) = nI 64 from rfl, y_mul, show (1460 : Int32) = nI 1460 from rfl, y_add]
  have bR : 7608 + 64 * nI i = nI (7608 + 64 * i) := by rw [show (64 : Int32) = nI 64 from rfl, y_mul, show (7608 : Int32) = nI 7608 from rfl, y_add]
  have nk : ∀ v, 1 ≤ v → v < 64 → 1460 + 64 * i + v ∉ zKL := fun v h1 h2 q => by rw [zKL_mem] at q; omega
  have nf : ∀ v, 1 ≤ v → v < 64 → 1460 + 64 * i + v ∉ zFs := fun v h1 h2 q => by rw [zFs_mem] at q; omega
  rcases d_tree (base := 1460 + 64 * i) (base' := 7608 + 64 * i) (kk := 6) wq (by omega) (by omega) (fun v hv => by rw [show 1460 + 64 * i + v = 1460 + (64 * i + v) by omega, zf_slot (by omega)]; omega) h hcr with ⟨s, r1, c1, x1, Z1, D1, R1, t1, t2, t3, t4, t5, t6, t7⟩ | ⟨s, D1, R1, t1, t2, t3, t4, t5⟩
  · have t2 : g_Mdl_codeTree_s (nI (1460 + 64 * i)) 6 wq D = some (nI s, D1) := t2
    have t3 : g_R_tree (nI (7608 + 64 * i)) 6 R = some (nI s, R1) := t3
    have tk : tot zKL Z1 ≤ tot zKL Z := by
      have := t7 zKL (fun _ _ => 0) (zPh_0 zKL_nd (fun v h1 h2 => nk v h1 (by omega)))
      omega
    have tf : tot zFs Z1 ≤ tot zFs Z := by
      have := t7 zFs (fun _ _ => 0) (zPh_0 zFs_nd (fun v h1 h2 => nf v h1 (by omega)))
      omega
    by_cases h4 : 4 ≤ s
    · have l4 : (4 : Int32) ≤ nI s := (y_le (a := 4) (by omega) (by omega)).mpr h4
      have k1 : nI s / 2 - 1 = nI (s / 2 - 1) := by
        rw [show (2 : Int32) = nI 2 from rfl, y_div (by omega) (by omega)]
        exact y_sub (a := s / 2) (b := 1) (by omega)
      have rm : zo_rem (nI s) 2 = nI (s % 2) := y_rem (b := 2) (by omega) (by omega)
      have y1 : zo_lshl (2 + (nI (s % 2)).toInt64) (nI (s / 2 - 1)) = nL ((2 + s % 2) * 2 ^ (s / 2 - 1)) := by
        rw [v_of (by omega), show (2 : Int64) = nL 2 from rfl, v_add]
        exact v_lshl (by omega) (by omega)
      obtain ⟨yR, hyR, y2⟩ : ∃ q3 : Int64, ((if ¬ nI (s % 2) = 0 then some 3 else some 2) : Option Int64) = some q3 ∧ zo_lshl q3 (nI (s / 2 - 1)) = nL ((2 + s % 2) * 2 ^ (s / 2 - 1)) := by
        have hs2 : s % 2 = 0 ∨ s % 2 = 1 := by omega
        rcases hs2 with e | e
        · refine ⟨2, by rw [e]; rfl, ?_⟩
          rw [e]
          exact v_lshl (u := 2) (by omega) (by omega)
        · refine ⟨3, by rw [e]; rfl, ?_⟩
          rw [e]
          exact v_lshl (u := 3) (by omega) (by omega)
      have yb : (2 + s % 2) * 2 ^ (s / 2 - 1) ≤ 3 * 2 ^ 30 := Nat.mul_le_mul (by omega) (Nat.pow_le_pow_right (by omega) (by omega))
      by_cases h14 : 14 ≤ s
      · have l14 : (14 : Int32) ≤ nI s := (y_le (a := 14) (by omega) (by omega)).mpr h14
        have yb2 : 2 * 2 ^ 6 ≤ (2 + s % 2) * 2 ^ (s / 2 - 1) := Nat.mul_le_mul (by omega) (Nat.pow_le_pow_right (by omega) (by omega))
        have yb8 : 18 ≤ s → 2 * 2 ^ 8 ≤ (2 + s % 2) * 2 ^ (s / 2 - 1) := fun hs => Nat.mul_le_mul (by omega) (Nat.pow_le_pow_right (by omega) (by omega))
        obtain ⟨kk, hkk⟩ : ∃ kk, kk = s / 2 - 1 := ⟨_, rfl⟩
        obtain ⟨yy, hyy⟩ : ∃ yy, yy = (2 + s % 2) * 2 ^ (s / 2 - 1) := ⟨_, rfl⟩
        rw [← hkk] at k1 y1 y2
        have hyy' : (2 + s % 2) * 2 ^ kk = yy := by rw [hkk, hyy]
        rw [hyy'] at y1 y2
        rw [← hyy] at yb yb2 yb8
        have k2 : nI kk - 1 = nI (3 + (kk - 4)) := by
          rw [show 3 + (kk - 4) = kk - 1 by omega]
          exact y_sub (a := kk) (b := 1) (by omega)
        rcases d_evens (nL yy) (zg_l D1 7 10 - 1 - nL yy) (nL yy) (kk := kk) (by omega) (kk - 4) 10000 10000 0 0 r1 c1 x1 D1 R1 (by omega) (by omega) (by omega) (by rw [Nat.sub_self]; exact Nat.one_pos) (by omega) t4 (Or.inl t6) with ⟨u, r2, c2, x2, D2, R2, w1, w2, w3, w4, w5, w6⟩ | ⟨u, u', D2, R2, w2, w3, w4, w5⟩
        · rw [show kk - (kk - 4) = 4 by omega] at w3
          have w2 : g_Mdl_codeDistance_s_106 (nL yy) (zg_l D1 7 10 - 1 - nL yy) 10000 0 (nI (3 + (kk - 4))) D1 = some (nL u, D2) := w2
          have w3 : g_R_distance_97 (nI kk) (nL yy) 10000 0 4 R1 = some (nL u, R2) := w3
          have hub : u < 2 ^ 26 := Nat.lt_of_lt_of_le w1 (Nat.pow_le_pow_right (by omega) (by omega))
          have fin : ∀ t : Nat, t < 16 → nL yy + 1 + 16 * nL u + (nI t).toInt64 = nL (yy + 1 + 16 * u + t) := fun t ht => by
            rw [v_of (by omega), show (16 : Int64) = nL 16 from rfl, v_mul, show (1 : Int64) = nL 1 from rfl, v_add, v_add, v_add]
          rcases w6 with hlt | ⟨t', sb, ht', hB⟩
          · rcases d_back (base := 2036) (base' := 8312) (kk := 4) ((zg_l D1 7 10 - 1 - nL yy).toInt32) (by omega) (by omega) (fun v hv => zf_far (by omega)) w4 hlt with ⟨t, r', c', x', Z', D', R', u1, u2, u3, u4, u5, u6, u7⟩ | ⟨t, D', R', u1, u2, u3, u4, u5⟩
            · left
              have u2 : g_Mdl_codeTreeBackwards_s 2036 4 ((zg_l D1 7 10 - 1 - nL yy).toInt32) D2 = some (nI t, D') := u2
              have u3 : g_R_backwards 8312 4 R2 = some (nI t, R') := u3
              refine ⟨yy + 1 + 16 * u + t, r', c', x', Z', D', R', by omega, by omega, ?_, ?_, u4, t5.trans (w5.trans u5), ?_, Or.inl ⟨u6, ?_⟩⟩
              · simp only [g_Mdl_codeDistance_s, hwq, h79, hiC, bC, t2, l4, l14, rm, k1, y1, k2, w2, u2, fin t (by omega), Option.bind_some, ↓reduceIte]
              · simp only [g_R_distance, hiR, bR, t3, l4, l14, rm, hyR, k1, y2, w3, u3, fin t (by omega), Option.bind_some, ↓reduceIte]
              · have := u7 zKL (fun _ _ => 0) (zPh_0 zKL_nd (fun v h1 h2 q => by rw [zKL_mem] at q; omega))
                omega
              · have := u7 zFs zphF zPh_F
                have e1 : zphF 1 4 = 1 := by decide
                omega
            · right
              have u2 : g_Mdl_codeTreeBackwards_s 2036 4 ((zg_l D1 7 10 - 1 - nL yy).toInt32) D2 = some (nI t, D') := u2
              have u3 : g_R_backwards 8312 4 R2 = some (nI t, R') := u3
              refine ⟨nL (yy + 1 + 16 * u + t), nL (yy + 1 + 16 * u + t), D', R', ?_, ?_, u4, t5.trans (w5.trans u5)⟩
              · simp only [g_Mdl_codeDistance_s, hwq, h79, hiC, bC, t2, l4, l14, rm, k1, y1, k2, w2, u2, fin t (by omega), Option.bind_some, ↓reduceIte]
              · simp only [g_R_distance, hiR, bR, t3, l4, l14, rm, hyR, k1, y2, w3, u3, fin t (by omega), Option.bind_some, ↓reduceIte]
          · rcases d_farB ((zg_l D1 7 10 - 1 - nL yy).toInt32) w4 hB (by omega) (by omega) (by omega) with ⟨r', c', x', s', D', R', u2, u3, u4, u5, u6⟩ | ⟨t, t2', D', R', u2, u3, u4, u5⟩
            · left
              have u2 : g_Mdl_codeTreeBackwards_s 2036 4 ((zg_l D1 7 10 - 1 - nL yy).toInt32) D2 = some (nI 15, D') := u2
              have u3 : g_R_backwards 8312 4 R2 = some (nI 15, R') := u3
              refine ⟨yy + 1 + 16 * u + 15, r', c', x', Z1, D', R', by omega, by omega, ?_, ?_, u4, t5.trans (w5.trans u5), tk, Or.inr ⟨tf, t' + 4, t' + tot zFs Z1, t', s', u6, by omega, by omega, by omega, by omega, fun hd => ?_⟩⟩
              · simp only [g_Mdl_codeDistance_s, hwq, h79, hiC, bC, t2, l4, l14, rm, k1, y1, k2, w2, u2, fin 15 (by omega), Option.bind_some, ↓reduceIte]
              · simp only [g_R_distance, hiR, bR, t3, l4, l14, rm, hyR, k1, y2, w3, u3, fin 15 (by omega), Option.bind_some, ↓reduceIte]
              · have h18 : s < 18 := by
                  apply Nat.lt_of_not_le
                  intro q
                  have := yb8 q
                  omega
                constructor
                · omega
                · omega
            · right
              refine ⟨nL yy + 1 + 16 * nL u + t.toInt64, nL yy + 1 + 16 * nL u + t2'.toInt64, D', R', by simp only [g_Mdl_codeDistance_s, hwq, h79, hiC, bC, t2, l4, l14, rm, k1, y1, k2, w2, u2, Option.bind_some, ↓reduceIte], by simp only [g_R_distance, hiR, bR, t3, l4, l14, rm, hyR, k1, y2, w3, u3, Option.bind_some, ↓reduceIte], u4, t5.trans (w5.trans u5)⟩
        · right
          rw [show kk - (kk - 4) = 4 by omega] at w3
          have w2 : g_Mdl_codeDistance_s_106 (nL yy) (zg_l D1 7 10 - 1 - nL yy) 10000 0 (nI (3 + (kk - 4))) D1 = some (u, D2) := w2
          have w3 : g_R_distance_97 (nI kk) (nL yy) 10000 0 4 R1 = some (u', R2) := w3
          obtain ⟨z1, z2, v1, v2⟩ := x_back D2 R2 2036 8312 4 ((zg_l D1 7 10 - 1 - nL yy).toInt32) (by omega) w4.bC w4.bR
          have v1 : g_Mdl_codeTreeBackwards_s 2036 4 ((zg_l D1 7 10 - 1 - nL yy).toInt32) D2 = _ := v1
          have v2 : g_R_backwards 8312 4 R2 = _ := v2
          refine ⟨nL yy + 1 + 16 * u + z1.toInt64, nL yy + 1 + 16 * u' + z2.toInt64, D2, R2, by simp only [g_Mdl_codeDistance_s, hwq, h79, hiC, bC, t2, l4, l14, rm, k1, y1, k2, w2, v1, Option.bind_some, ↓reduceIte], by simp only [g_R_distance, hiR, bR, t3, l4, l14, rm, hyR, k1, y2, w3, v2, Option.bind_some, ↓reduceIte], w4, t5.trans w5⟩
      · have l14 : ¬ (14 : Int32) ≤ nI s := fun q => h14 ((y_le (a := 14) (by omega) (by omega)).mp q)
        have p5 : 2 ^ (s / 2 - 1) ≤ 2 ^ 5 := Nat.pow_le_pow_right (by omega) (by omega)
        have i1 : 1716 + 32 * (nI s - 4) = nI (1716 + 32 * (s - 4)) := by
          rw [show nI s - 4 = nI (s - 4) from y_sub (b := 4) h4, show (32 : Int32) = nI 32 from rfl, y_mul, show (1716 : Int32) = nI 1716 from rfl, y_add]
        have i2 : 7864 + 32 * nI s - 128 = nI (7864 + 32 * (s - 4)) := by
          rw [show (32 : Int32) = nI 32 from rfl, y_mul, show (7864 : Int32) = nI 7864 from rfl, y_add]
          have e : nI (7864 + 32 * s) - nI 128 = nI (7864 + 32 * s - 128) := y_sub (by omega)
          rw [show (128 : Int32) = nI 128 from rfl, e, show 7864 + 32 * s - 128 = 7864 + 32 * (s - 4) by omega]
        have fin : ∀ t : Nat, t < 32 → nL ((2 + s % 2) * 2 ^ (s / 2 - 1)) + 1 + (nI t).toInt64 = nL ((2 + s % 2) * 2 ^ (s / 2 - 1) + 1 + t) := fun t ht => by
          rw [v_of (by omega), show (1 : Int64) = nL 1 from rfl, v_add, v_add]
        obtain ⟨yy, hyy⟩ : ∃ yy, yy = (2 + s % 2) * 2 ^ (s / 2 - 1) := ⟨_, rfl⟩
        rw [← hyy] at y1 y2 fin yb
        rcases d_back (base := 1716 + 32 * (s - 4)) (base' := 7864 + 32 * (s - 4)) (kk := s / 2 - 1) ((zg_l D1 7 10 - 1 - nL yy).toInt32) (by omega) (by omega) (fun v hv => by rw [show 1716 + 32 * (s - 4) + v = 1716 + (32 * (s - 4) + v) by omega, zf_near (by omega)]; omega) t4 t6 with ⟨t, r', c', x', Z', D', R', u1, u2, u3, u4, u5, u6, u7⟩ | ⟨t, D', R', u1, u2, u3, u4, u5⟩
        · left
          refine ⟨yy + 1 + t, r', c', x', Z', D', R', by omega, by omega, ?_, ?_, u4, t5.trans u5, ?_, Or.inl ⟨u6, ?_⟩⟩
          · simp only [g_Mdl_codeDistance_s, hwq, h79, hiC, bC, t2, l4, l14, rm, k1, y1, i1, u2, fin t (by omega), Option.bind_some, ↓reduceIte]
          · simp only [g_R_distance, hiR, bR, t3, l4, l14, rm, hyR, k1, y2, i2, u3, fin t (by omega), Option.bind_some, ↓reduceIte]
          · have := u7 zKL (fun _ _ => 0) (zPh_0 zKL_nd (fun v h1 h2 q => by rw [zKL_mem] at q; omega))
            omega
          · have := u7 zFs (fun _ _ => 0) (zPh_0 zFs_nd (fun v h1 h2 q => by rw [zFs_mem] at q; omega))
            omega
        · right
          exact ⟨nL yy + 1 + (nI t).toInt64, nL yy + 1 + (nI t).toInt64, D', R', by simp only [g_Mdl_codeDistance_s, hwq, h79, hiC, bC, t2, l4, l14, rm, k1, y1, i1, u2, Option.bind_some, ↓reduceIte], by simp only [g_R_distance, hiR, bR, t3, l4, l14, rm, hyR, k1, y2, i2, u3, Option.bind_some, ↓reduceIte], u4, t5.trans u5⟩
    · left
      have l4 : ¬ (4 : Int32) ≤ nI s := fun q => h4 ((y_le (a := 4) (by omega) (by omega)).mp q)
      have f1 : (nI s + 1).toInt64 = nL (s + 1) := by rw [y_1, v_of (by omega)]
      have f2 : (nI s).toInt64 + 1 = nL (s + 1) := by rw [v_of (by omega), show (1 : Int64) = nL 1 from rfl, v_add]
      refine ⟨s + 1, r1, c1, x1, Z1, D1, R1, by omega, by omega, ?_, ?_, t4, t5, tk, Or.inl ⟨t6, by omega⟩⟩
      · simp only [g_Mdl_codeDistance_s, hwq, h79, hiC, bC, t2, l4, f1, Option.bind_some, ↓reduceIte]
      · simp only [g_R_distance, hiR, bR, t3, l4, f2, Option.bind_some, ↓reduceIte]
  · right
    have t2 : g_Mdl_codeTree_s (nI (1460 + 64 * i)) 6 wq D = some (nI s, D1) := t2
    have t3 : g_R_tree (nI (7608 + 64 * i)) 6 R = some (nI s, R1) := t3
    by_cases h4 : 4 ≤ s
    · have l4 : (4 : Int32) ≤ nI s := (y_le (a := 4) (by omega) (by omega)).mpr h4
      have k1 : nI s / 2 - 1 = nI (s / 2 - 1) := by
        rw [show (2 : Int32) = nI 2 from rfl, y_div (by omega) (by omega)]
        exact y_sub (a := s / 2) (b := 1) (by omega)
      obtain ⟨yR, hyR⟩ : ∃ q3 : Int64, ((if ¬ zo_rem (nI s) 2 = 0 then some 3 else some 2) : Option Int64) = some q3 := by
        by_cases q : ¬ zo_rem (nI s) 2 = 0
        · exact ⟨3, by rw [if_pos q]⟩
        · exact ⟨2, by rw [if_neg q]⟩
      generalize hy : zo_lshl (2 + (zo_rem (nI s) 2).toInt64) (nI (s / 2 - 1)) = yC
      by_cases h14 : 14 ≤ s
      · have l14 : (14 : Int32) ≤ nI s := (y_le (a := 14) (by omega) (by omega)).mpr h14
        have k2 : nI (s / 2 - 1) - 1 = nI (3 + (s / 2 - 1 - 4)) := by
          rw [show 3 + (s / 2 - 1 - 4) = s / 2 - 1 - 1 by omega]
          exact y_sub (a := s / 2 - 1) (b := 1) (by omega)
        obtain ⟨u', u'', w2, w3⟩ := x_evens D1 R1 (s / 2 - 1) yC (zg_l D1 7 10 - 1 - yC) (zo_lshl yR (nI (s / 2 - 1))) (by omega) t4.bC t4.bR (s / 2 - 1 - 4) 10000 10000 0 0 (by omega) (by omega) (by omega)
        rw [show s / 2 - 1 - (s / 2 - 1 - 4) = 4 by omega] at w3
        have w3 : g_R_distance_97 (nI (s / 2 - 1)) (zo_lshl yR (nI (s / 2 - 1))) 10000 0 4 R1 = _ := w3
        obtain ⟨z1, z2, v1, v2⟩ := x_back D1 R1 2036 8312 4 ((zg_l D1 7 10 - 1 - yC).toInt32) (by omega) t4.bC t4.bR
        have v1 : g_Mdl_codeTreeBackwards_s 2036 4 ((zg_l D1 7 10 - 1 - yC).toInt32) D1 = _ := v1
        have v2 : g_R_backwards 8312 4 R1 = _ := v2
        exact ⟨yC + 1 + 16 * u' + z1.toInt64, zo_lshl yR (nI (s / 2 - 1)) + 1 + 16 * u'' + z2.toInt64, D1, R1, by simp only [g_Mdl_codeDistance_s, hwq, h79, hiC, bC, t2, l4, l14, k1, hy, k2, w2, v1, Option.bind_some, ↓reduceIte], by simp only [g_R_distance, hiR, bR, t3, l4, l14, hyR, k1, w3, v2, Option.bind_some, ↓reduceIte], t4, t5⟩
      · have l14 : ¬ (14 : Int32) ≤ nI s := fun q => h14 ((y_le (a := 14) (by omega) (by omega)).mp q)
        obtain ⟨z1, z2, v1, v2⟩ := x_back D1 R1 (1716 + 32 * (nI s - 4)) (7864 + 32 * nI s - 128) (s / 2 - 1) ((zg_l D1 7 10 - 1 - yC).toInt32) (by omega) t4.bC t4.bR
        exact ⟨yC + 1 + z1.toInt64, zo_lshl yR (nI (s / 2 - 1)) + 1 + z2.toInt64, D1, R1, by simp only [g_Mdl_codeDistance_s, hwq, h79, hiC, bC, t2, l4, l14, k1, hy, v1, Option.bind_some, ↓reduceIte], by simp only [g_R_distance, hiR, bR, t3, l4, l14, hyR, k1, v2, Option.bind_some, ↓reduceIte], t4, t5⟩
    · have l4 : ¬ (4 : Int32) ≤ nI s := fun q => h4 ((y_le (a := 4) (by omega) (by omega)).mp q)
      exact ⟨(nI s + 1).toInt64, (nI s).toInt64 + 1, D1, R1, by simp only [g_Mdl_codeDistance_s, hwq, h79, hiC, bC, t2, l4, Option.bind_some, ↓reduceIte], by simp only [g_R_distance, hiR, bR, t3, l4, Option.bind_some, ↓reduceIte], t4, t5⟩
