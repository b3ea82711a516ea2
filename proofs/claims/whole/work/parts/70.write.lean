abbrev zWo (w : Nat) (D R : zx_D) : Prop := Nonempty ((w ≤ 640) ∧ (zg_i D 18 1 = nI w) ∧ (zg_i D 18 2 = 0) ∧ (zg_i R 0 7 = nI w) ∧ (∀ i, i < w → zg_i D 19 i = zg_i R 4 i ∧ y_B (zg_i R 4 i)))
theorem zWo.hw {w : Nat} {D R : zx_D} (h : zWo w D R) : w ≤ 640 := h.elim fun q => q.1
theorem zWo.sC {w : Nat} {D R : zx_D} (h : zWo w D R) : zg_i D 18 1 = nI w := h.elim fun q => q.2.1
theorem zWo.oC {w : Nat} {D R : zx_D} (h : zWo w D R) : zg_i D 18 2 = 0 := h.elim fun q => q.2.2.1
theorem zWo.sR {w : Nat} {D R : zx_D} (h : zWo w D R) : zg_i R 0 7 = nI w := h.elim fun q => q.2.2.2.1
theorem zWo.bs {w : Nat} {D R : zx_D} (h : zWo w D R) : ∀ i, i < w → zg_i D 19 i = zg_i R 4 i ∧ y_B (zg_i R 4 i) := h.elim fun q => q.2.2.2.2
abbrev zWf (D R : zx_D) : Prop := Nonempty ((zg_i D 18 1 = nI 640) ∧ (zg_i D 18 2 = 1) ∧ (∃ w, 640 < w ∧ w < 2 ^ 20 ∧ zg_i R 0 7 = nI w) ∧ (∀ i, i < 640 → y_B (zg_i R 4 i)))
theorem zWf.sC {D R : zx_D} (h : zWf D R) : zg_i D 18 1 = nI 640 := h.elim fun q => q.1
theorem zWf.oC {D R : zx_D} (h : zWf D R) : zg_i D 18 2 = 1 := h.elim fun q => q.2.1
theorem zWf.sR {D R : zx_D} (h : zWf D R) : ∃ w, 640 < w ∧ w < 2 ^ 20 ∧ zg_i R 0 7 = nI w := h.elim fun q => q.2.2.1
theorem zWf.bs {D R : zx_D} (h : zWf D R) : ∀ i, i < 640 → y_B (zg_i R 4 i) := h.elim fun q => q.2.2.2
abbrev zWq (D D' R R' : zx_D) : Prop := Nonempty ((∀ p k, p ≠ 18 → p ≠ 19 → zg_i D' p k = zg_i D p k) ∧ (∀ p k, zg_l D' p k = zg_l D p k) ∧ (∀ k, k ≠ 7 → zg_i R' 0 k = zg_i R 0 k) ∧ (∀ p k, p ≠ 0 → p ≠ 4 → zg_i R' p k = zg_i R p k) ∧ (∀ p k, zg_l R' p k = zg_l R p k))
theorem zWq.c {D D' R R' : zx_D} (h : zWq D D' R R') : ∀ p k, p ≠ 18 → p ≠ 19 → zg_i D' p k = zg_i D p k := h.elim fun q => q.1
theorem zWq.cl {D D' R R' : zx_D} (h : zWq D D' R R') : ∀ p k, zg_l D' p k = zg_l D p k := h.elim fun q => q.2.1
theorem zWq.r {D D' R R' : zx_D} (h : zWq D D' R R') : ∀ k, k ≠ 7 → zg_i R' 0 k = zg_i R 0 k := h.elim fun q => q.2.2.1
theorem zWq.rp {D D' R R' : zx_D} (h : zWq D D' R R') : ∀ p k, p ≠ 0 → p ≠ 4 → zg_i R' p k = zg_i R p k := h.elim fun q => q.2.2.2.1
theorem zWq.rl {D D' R R' : zx_D} (h : zWq D D' R R') : ∀ p k, zg_l R' p k = zg_l R p k := h.elim fun q => q.2.2.2.2
theorem zWq_rfl {D R : zx_D} : zWq D D R R := ⟨fun _ _ _ _ => rfl, fun _ _ => rfl, fun _ _ => rfl, fun _ _ _ _ => rfl, fun _ _ => rfl⟩
theorem zWq.trans {D D' D'' R R' R'' : zx_D} (h1 : zWq D D' R R') (h2 : zWq D' D'' R' R'') : zWq D D'' R R'' :=
  ⟨fun p k a1 a2 => (h2.c p k a1 a2).trans (h1.c p k a1 a2), fun p k => (h2.cl p k).trans (h1.cl p k), fun k a1 => (h2.r k a1).trans (h1.r k a1), fun p k a1 a2 => (h2.rp p k a1 a2).trans (h1.rp p k a1 a2), fun p k => (h2.rl p k).trans (h1.rl p k)⟩
theorem w_app {w : Nat} {D R : zx_D} {b : Int32} (h : zWo w D R) (hb : y_B b) (hw : w < 640) :
    g_Row_append_18 b D = some (zp_i (zp_i D 19 w b) 18 1 (nI (w + 1))) ∧ g_R_write b R = some (zp_i (zp_i R 4 w b) 0 7 (nI (w + 1))) ∧ zWo (w + 1) (zp_i (zp_i D 19 w b) 18 1 (nI (w + 1))) (zp_i (zp_i R 4 w b) 0 7 (nI (w + 1))) ∧ zWq D (zp_i (zp_i D 19 w b) 18 1 (nI (w + 1))) R (zp_i (zp_i R 4 w b) 0 7 (nI (w + 1))) := by
  have l1 : nI w < 640 := (y_lt (b := 640) (by omega) (by omega)).mpr hw
  have l2 : ¬ (640 : Int32) ≤ nI w := fun q => by have := (y_le (a := 640) (by omega) (by omega)).mp q; omega
  have z1 : zk_in (nI w) 640 = true := y_in hw (by omega)
  have z2 : zn (nI w) = w := y_zn (by omega)
  refine ⟨by simp only [Option.bind_some, ↓reduceIte, not_true_eq_false, not_false_eq_true, y_1, g_Row_append_18, h.sC, l1, z1, z2], by simp only [Option.bind_some, ↓reduceIte, not_true_eq_false, not_false_eq_true, y_1, g_R_write, h.sR, l2, z1, z2], ⟨by omega, rfl, h.oC, rfl, fun i hi => ?_⟩, ⟨fun p k a1 a2 => ?_, fun p k => rfl, fun k a1 => ?_, fun p k a1 a2 => ?_, fun p k => rfl⟩⟩
  · have e1 : zg_i (zp_i (zp_i D 19 w b) 18 1 (nI (w + 1))) 19 i = if i = w then b else zg_i D 19 i := by
      rw [y_gi, if_neg (by omega), y_gi]
      simp
    have e2 : zg_i (zp_i (zp_i R 4 w b) 0 7 (nI (w + 1))) 4 i = if i = w then b else zg_i R 4 i := by
      rw [y_gi, if_neg (by omega), y_gi]
      simp
    rw [e1, e2]
    by_cases hi2 : i = w
    · rw [if_pos hi2, if_pos hi2]
      exact ⟨rfl, hb⟩
    · rw [if_neg hi2, if_neg hi2]
      exact h.bs i (by omega)
  · rw [y_gi, if_neg (fun q => a1 q.1), y_gi, if_neg (fun q => a2 q.1)]
  · rw [y_gi, if_neg (fun q => a1 q.2), y_gi, if_neg (by omega)]
  · rw [y_gi, if_neg (fun q => a1 q.1), y_gi, if_neg (fun q => a2 q.1)]
theorem w_full {D R : zx_D} {b : Int32} (h : zWo 640 D R) :
    g_Row_append_18 b D = some (zp_i D 18 2 1) ∧ g_R_write b R = some (zp_i R 0 7 (nI 641)) ∧ zWf (zp_i D 18 2 1) (zp_i R 0 7 (nI 641)) ∧ zWq D (zp_i D 18 2 1) R (zp_i R 0 7 (nI 641)) := by
  have l1 : ¬ nI 640 < 640 := by decide
  have l2 : (640 : Int32) ≤ nI 640 := by decide
  refine ⟨by simp only [Option.bind_some, ↓reduceIte, not_true_eq_false, not_false_eq_true, y_1, g_Row_append_18, h.sC, l1], by simp only [Option.bind_some, ↓reduceIte, not_true_eq_false, not_false_eq_true, y_1, g_R_write, h.sR, l2], ⟨h.sC, rfl, ⟨641, by omega, by omega, rfl⟩, fun i hi => (h.bs i hi).2⟩, ⟨fun p k a1 a2 => ?_, fun p k => rfl, fun k a1 => ?_, fun p k a1 a2 => ?_, fun p k => rfl⟩⟩
  · rw [y_gi, if_neg (fun q => a1 q.1)]
  · rw [y_gi, if_neg (fun q => a1 q.2)]
  · rw [y_gi, if_neg (fun q => a1 q.1)]
theorem w_appC {D : zx_D} (b : Int32) (h1 : zg_i D 18 1 = nI 640) (h2 : zg_i D 18 2 = 1) : g_Row_append_18 b D = some D := by
  have l1 : ¬ nI 640 < 640 := by decide
  simp only [Option.bind_some, ↓reduceIte, not_true_eq_false, not_false_eq_true, y_1, g_Row_append_18, h1, l1]
  rw [y_same' h2]
theorem w_lowL (x : Int64) : ∀ (j k1 k2 i c w : Nat) (D R : zx_D), i + j = c → c ≤ 8 → j < k1 → j < k2 → zWo w D R → w + j ≤ 640 → ∃ D' R', g_Row_appendLowFirst_18_3 x (nI c) k1 (nI i) D = some D' ∧ g_R_writeNumber_3 x (nI c) k2 (nI i) R = some R' ∧ zWo (w + j) D' R' ∧ zWq D D' R R'
  | 0, k1 + 1, k2 + 1, i, c, w, D, R, hi, hc, _, _, h, _ => by
    have l : nI c ≤ nI i := (y_le (by omega) (by omega)).mpr (by omega)
    exact ⟨D, R, by simp only [Option.bind_some, ↓reduceIte, not_true_eq_false, not_false_eq_true, y_1, g_Row_appendLowFirst_18_3, l], by simp only [Option.bind_some, ↓reduceIte, not_true_eq_false, not_false_eq_true, y_1, g_R_writeNumber_3, l], h, zWq_rfl⟩
  | j + 1, k1 + 1, k2 + 1, i, c, w, D, R, hi, hc, h1, h2, h, hw => by
    have l : ¬ nI c ≤ nI i := fun q => by have := (y_le (by omega) (by omega)).mp q; omega
    obtain ⟨t1, t2, t3, t4⟩ := w_app (b := (zo_lushr x (8 * nI i)).toInt32 &&& 255) h y_B_of (by omega)
    obtain ⟨D', R', u1, u2, u3, u4⟩ := w_lowL x j k1 k2 (i + 1) c (w + 1) _ _ (by omega) hc (by omega) (by omega) t3 (by omega)
    refine ⟨D', R', ?_, ?_, by rwa [show w + 1 + j = w + (j + 1) by omega] at u3, t4.trans u4⟩
    · rw [g_Row_appendLowFirst_18_3, if_neg l, t1, Option.bind_some, y_1, u1]
    · rw [g_R_writeNumber_3, if_neg l, ← y_byte x (by omega), t2, Option.bind_some, y_1, u2]
theorem w_low {w : Nat} {D R : zx_D} (x : Int64) (c : Nat) (hc : c ≤ 8) (h : zWo w D R) (hw : w + c ≤ 640) : ∃ D' R', g_Row_appendLowFirst_18 x (nI c) D = some D' ∧ g_R_writeNumber x (nI c) R = some R' ∧ zWo (w + c) D' R' ∧ zWq D D' R R' := by
  obtain ⟨D', R', u1, u2, u3, u4⟩ := w_lowL x c 10000 10000 0 c w D R (by omega) hc (by omega) (by omega) h hw
  have u1 : g_Row_appendLowFirst_18_3 x (nI c) 10000 0 D = some D' := u1
  have u2 : g_R_writeNumber_3 x (nI c) 10000 0 R = some R' := u2
  exact ⟨D', R', by simp only [Option.bind_some, ↓reduceIte, not_true_eq_false, not_false_eq_true, y_1, g_Row_appendLowFirst_18, u1], by simp only [Option.bind_some, ↓reduceIte, not_true_eq_false, not_false_eq_true, y_1, g_R_writeNumber, u2], u3, u4⟩
theorem w_sumR (R : zx_D) (w : Nat) (hw : w ≤ 640) (hs : zg_i R 0 7 = nI w) (hb : ∀ i, i < w → y_B (zg_i R 4 i)) : ∀ (c k j : Nat) (s : Int64), c < k → j + c = w → y_P s → g_R_writeSum_7 R k s (nI j) = some (y_fo 3988292384 (R.1 4) c j s)
  | 0, k + 1, j, s, _, hj, _ => by
    have l : nI w ≤ nI j := (y_le (by omega) (by omega)).mpr (by omega)
    simp only [Option.bind_some, ↓reduceIte, not_true_eq_false, not_false_eq_true, y_1, g_R_writeSum_7, hs, l]
    rfl
  | c + 1, k + 1, j, s, hk, hj, hp => by
    have l : ¬ nI w ≤ nI j := fun q => by have := (y_le (by omega) (by omega)).mp q; omega
    have l2 : ¬ (640 : Int32) ≤ nI j := fun q => by have := (y_le (a := 640) (by omega) (by omega)).mp q; omega
    rw [g_R_writeSum_7, hs, if_neg l, if_neg l2, if_pos (y_in (by omega) (by omega)), y_zn (by omega), y_four R hp (hb j (by omega)), Option.bind_some, y_1]
    exact w_sumR R w hw hs hb c k (j + 1) _ (by omega) (by omega) (y_by_P y_P_4 hp (hb j (by omega)))
theorem w_sum {w j : Nat} {D R : zx_D} (h : zWo w D R) (hj : j ≤ w) : ∃ v, g_P_sumFour_19 (nI j) (nI w) D = some (v ^^^ 4294967295) ∧ g_R_writeSum_7 R 10000 4294967295 (nI j) = some v := by
  have hw := h.hw
  refine ⟨y_fo 3988292384 (R.1 4) (w - j) j 4294967295, ?_, w_sumR R w hw h.sR (fun i hi => (h.bs i hi).2) (w - j) 10000 j _ (by omega) (by omega) y_P_F⟩
  rw [y_sum4_19 D hw hj, y_s4_congr (f := D.1 19) (g := R.1 4) (fun i _ hi => (h.bs i (by omega)).1)]
  rfl
