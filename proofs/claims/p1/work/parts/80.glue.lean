theorem zi_where {l : Launch} {E1 E2 : zx_E} {xs : Nat → Int32} {t : Nat} {K : zx_S → zx_S → Prop} {n m cb sd ln pp : Nat} {D R : zx_D} (hK : ∀ (n m : Nat) (D R : zx_D) (cb sd ln pp : Nat), zI n m D R → K ([cb, sd, ln, pp], D) ([], R)) (h : zI n m D R) : zj_where l E1 E2 xs t K ([cb, sd, ln, pp], D) ([], R) := by
  obtain ⟨r, h1, h2⟩ := zI_where h
  exact ⟨r, _, _, c_g_P_where (d := 9) h1, c_g_R_where (d := 9) h2, hK _ _ _ _ _ _ _ _ h⟩
theorem zi_range {l : Launch} {E1 E2 : zx_E} {xs : Nat → Int32} {t : Nat} {K : zx_S → zx_S → Prop} {n m cb sd ln pp : Nat} {D R : zx_D} (hK : ∀ (n m : Nat) (D R : zx_D) (cb sd ln pp : Nat), zI n m D R → K ([cb, sd, ln, pp], D) ([], R)) (h : zI n m D R) : zj_range l E1 E2 xs t K ([cb, sd, ln, pp], D) ([], R) := by
  obtain ⟨r, h1, h2⟩ := zI_range h
  exact ⟨r, _, _, c_g_P_range (d := 9) h1, c_g_R_range (d := 9) h2, hK _ _ _ _ _ _ _ _ h⟩
theorem zi_code {l : Launch} {E1 E2 : zx_E} {xs : Nat → Int32} {t : Nat} {K : zx_S → zx_S → Prop} {n m cb sd ln pp : Nat} {D R : zx_D} (hK : ∀ (n m : Nat) (D R : zx_D) (cb sd ln pp : Nat), zI n m D R → K ([cb, sd, ln, pp], D) ([], R)) (h : zI n m D R) : zj_code l E1 E2 xs t K ([cb, sd, ln, pp], D) ([], R) := by
  obtain ⟨r, h1, h2⟩ := zI_code h
  exact ⟨r, _, _, c_g_P_code (d := 9) h1, c_g_R_code (d := 9) h2, hK _ _ _ _ _ _ _ _ h⟩
theorem zi_count {l : Launch} {E1 E2 : zx_E} {xs : Nat → Int32} {t : Nat} {K : zx_S → zx_S → Prop} {n m cb sd ln pp : Nat} {D R : zx_D} (hK : ∀ (n m : Nat) (D R : zx_D) (cb sd ln pp : Nat), zI n m D R → K ([cb, sd, ln, pp], D) ([], R)) (h : zI n m D R) : zj_count l E1 E2 xs t K ([cb, sd, ln, pp], D) ([], R) := by
  obtain ⟨r, h1, h2⟩ := zI_count h (xs (t + 1))
  exact ⟨r, _, _, c_g_P_count (d := 9) h1, c_g_R_count (d := 9) h2, hK _ _ _ _ _ _ _ _ h⟩
theorem zi_watch {l : Launch} {E1 E2 : zx_E} {xs : Nat → Int32} {t : Nat} {K : zx_S → zx_S → Prop} {n m cb sd ln pp : Nat} {D R : zx_D} (hK : ∀ (n m : Nat) (D R : zx_D) (cb sd ln pp : Nat), zI n m D R → K ([cb, sd, ln, pp], D) ([], R)) (h : zI n m D R) : zj_watch l E1 E2 xs t K ([cb, sd, ln, pp], D) ([], R) := by
  obtain ⟨r, D', R', h1, h2, h3⟩ := zI_watch h (xs (t + 1))
  exact ⟨r, _, _, c_g_P_watch (d := 9) h1, c_g_R_watch (d := 9) h2, hK _ _ _ _ _ _ _ _ h3⟩
theorem zi_change {l : Launch} {E1 E2 : zx_E} {xs : Nat → Int32} {t : Nat} {K : zx_S → zx_S → Prop} {n m cb sd ln pp : Nat} {D R : zx_D} (hK : ∀ (n m : Nat) (D R : zx_D) (cb sd ln pp : Nat), zI n m D R → K ([cb, sd, ln, pp], D) ([], R)) (h : zI n m D R) : zj_change l E1 E2 xs t K ([cb, sd, ln, pp], D) ([], R) := by
  obtain ⟨r, D', R', h1, h2, h3⟩ := zI_change h (xs (t + 1)) (xs (t + 2))
  exact ⟨r, _, _, c_g_P_change (d := 8) h1, c_g_R_change (d := 9) h2, hK _ _ _ _ _ _ _ _ h3⟩
theorem zi_copy {l : Launch} {E1 E2 : zx_E} {xs : Nat → Int32} {t : Nat} {K : zx_S → zx_S → Prop} {n m cb sd ln pp : Nat} {D R : zx_D} (hK : ∀ (n m : Nat) (D R : zx_D) (cb sd ln pp : Nat), zI n m D R → K ([cb, sd, ln, pp], D) ([], R)) (h : zI n m D R) : zj_copy l E1 E2 xs t K ([cb, sd, ln, pp], D) ([], R) := by
  obtain ⟨r, D', R', n', h1, h2, h3⟩ := zI_copy h (xs (t + 1)) (xs (t + 2))
  exact ⟨r, _, _, c_g_P_copy (d := 7) h1, c_g_R_copy (d := 9) h2, hK _ _ _ _ _ _ _ _ h3⟩
theorem zi_at {l : Launch} {E1 E2 : zx_E} {xs : Nat → Int32} {t : Nat} {K : zx_S → zx_S → Prop} {n m cb sd ln pp : Nat} {D R : zx_D} (hK : ∀ (n m : Nat) (D R : zx_D) (cb sd ln pp : Nat), zI n m D R → K ([cb, sd, ln, pp], D) ([], R)) (h : zI n m D R) : zj_at l E1 E2 xs t K ([cb, sd, ln, pp], D) ([], R) := by
  unfold zj_at
  by_cases hb : xs (t + 2) = 0
  · rw [if_pos hb]
    obtain ⟨r, h1, h2⟩ := zI_at0 h (xs (t + 1))
    exact ⟨r, _, _, c_g_P_at_b0 (d := 8) h1, c_g_R_at_b0 (d := 9) h2, hK _ _ _ _ _ _ _ _ h⟩
  · rw [if_neg hb]
    obtain ⟨r, h1, h2⟩ := zI_at1 h (xs (t + 1))
    exact ⟨r, _, _, c_g_P_at_b1 (d := 8) h1, c_g_R_at_b1 (d := 9) h2, hK _ _ _ _ _ _ _ _ h⟩
theorem zi_cut {l : Launch} {E1 E2 : zx_E} {xs : Nat → Int32} {t : Nat} {K : zx_S → zx_S → Prop} {n m cb sd ln pp : Nat} {D R : zx_D} (hK : ∀ (n m : Nat) (D R : zx_D) (cb sd ln pp : Nat), zI n m D R → K ([cb, sd, ln, pp], D) ([], R)) (h : zI n m D R) : zj_cut l E1 E2 xs t K ([cb, sd, ln, pp], D) ([], R) := by
  unfold zj_cut
  by_cases hb : xs (t + 2) = 0
  · rw [if_pos hb]
    obtain ⟨r, D', R', n', m', h1, h2, h3⟩ := zI_cut0 h (xs (t + 1))
    exact ⟨r, _, _, c_g_P_cut_b0 (d := 8) h1, c_g_R_cut_b0 (d := 9) h2, hK _ _ _ _ _ _ _ _ h3⟩
  · rw [if_neg hb]
    obtain ⟨r, D', R', n', m', h1, h2, h3⟩ := zI_cut1 h (xs (t + 1))
    exact ⟨r, _, _, c_g_P_cut_b1 (d := 8) h1, c_g_R_cut_b1 (d := 9) h2, hK _ _ _ _ _ _ _ _ h3⟩
theorem zi_feed {l : Launch} {E1 E2 : zx_E} {xs : Nat → Int32} {t : Nat} {K : zx_S → zx_S → Prop} {n m cb sd ln pp : Nat} {D R : zx_D} (hK : ∀ (n m : Nat) (D R : zx_D) (cb sd ln pp : Nat), zI n m D R → K ([cb, sd, ln, pp], D) ([], R)) (h : zI n m D R) : zj_feed l E1 E2 xs t K ([cb, sd, ln, pp], D) ([], R) := by
  unfold zj_feed
  by_cases hb : xs (t + 4) = 0
  · rw [if_pos hb]
    obtain ⟨r, D', R', n', m', h1, h2, h3⟩ := zI_feed0 h ((zo_lshl ((xs (t + 1))).toInt64 32) ||| (((xs (t + 2))).toInt64 &&& 4294967295)) (xs (t + 3))
    exact ⟨r, _, _, c_g_P_feed_b0 (d := 8) h1, c_g_R_feed_b0 (d := 9) h2, hK _ _ _ _ _ _ _ _ h3⟩
  · rw [if_neg hb]
    obtain ⟨r, D', R', n', m', h1, h2, h3⟩ := zI_feed1 h ((zo_lshl ((xs (t + 1))).toInt64 32) ||| (((xs (t + 2))).toInt64 &&& 4294967295)) (xs (t + 3))
    exact ⟨r, _, _, c_g_P_feed_b1 (d := 8) h1, c_g_R_feed_b1 (d := 9) h2, hK _ _ _ _ _ _ _ _ h3⟩
theorem zi_sum {l : Launch} {E1 E2 : zx_E} {xs : Nat → Int32} {t : Nat} {K : zx_S → zx_S → Prop} {n m cb sd ln pp : Nat} {D R : zx_D} (hK : ∀ (n m : Nat) (D R : zx_D) (cb sd ln pp : Nat), zI n m D R → K ([cb, sd, ln, pp], D) ([], R)) (h : zI n m D R) : zj_sum l E1 E2 xs t K ([cb, sd, ln, pp], D) ([], R) := by
  unfold zj_sum
  by_cases hb : xs (t + 1) = 0
  · rw [if_pos hb]
    obtain ⟨h1, h2⟩ := zI_sum0 h
    exact ⟨_, _, _, c_g_P_sum_b0 (d := 7) h1, c_g_R_sum_b0 (d := 8) h2, hK _ _ _ _ _ _ _ _ h⟩
  · rw [if_neg hb]
    obtain ⟨h1, h2⟩ := zI_sum1 h
    exact ⟨_, _, _, c_g_P_sum_b1 (d := 7) h1, c_g_R_sum_b1 (d := 8) h2, hK _ _ _ _ _ _ _ _ h⟩
theorem zi_all {l : Launch} {E1 E2 : zx_E} {xs : Nat → Int32} {t : Nat} {K : zx_S → zx_S → Prop} {n m cb sd ln pp : Nat} {D R : zx_D} (hK : ∀ (n m : Nat) (D R : zx_D) (cb sd ln pp : Nat), zI n m D R → K ([cb, sd, ln, pp], D) ([], R)) (h : zI n m D R) (hp : zj_pack l E1 E2 xs t K ([cb, sd, ln, pp], D) ([], R)) (hu : zj_unpack l E1 E2 xs t K ([cb, sd, ln, pp], D) ([], R)) : zj l E1 E2 xs t K ([cb, sd, ln, pp], D) ([], R) :=
  ⟨fun _ => zi_feed hK h, fun _ => zi_copy hK h, fun _ => zi_cut hK h, fun _ => zi_change hK h, fun _ => zi_at hK h, fun _ => hp, fun _ => hu, fun _ => zi_where hK h, fun _ => zi_watch hK h, fun _ => zi_range hK h, fun _ => zi_code hK h, fun _ => zi_count hK h, fun _ => zi_sum hK h, hK _ _ _ _ _ _ _ _ h⟩
theorem zi_packof {l : Launch} {E1 E2 : zx_E} {xs : Nat → Int32} {t : Nat} {K : zx_S → zx_S → Prop} {n m cb sd ln pp : Nat} {D R : zx_D} {q : Int32 × Nat × Nat × zx_D} {q' : Int32 × zx_D} (h1 : g_P_pack ln pp (xs (t + 1)) (xs (t + 2)) (xs (t + 3)) D = some q) (h2 : g_R_pack (xs (t + 1)) (xs (t + 2)) (xs (t + 3)) R = some q') (e : q.1 = q'.1) (hK : K ([cb, sd, q.2.1, q.2.2.1], q.2.2.2) ([], q'.2)) : zj_pack l E1 E2 xs t K ([cb, sd, ln, pp], D) ([], R) := by
  refine ⟨q.1, _, _, c_g_P_pack (d := 2) h1, ?_, hK⟩
  rw [e]
  exact c_g_R_pack (d := 0) h2
theorem zi_unpackof {l : Launch} {E1 E2 : zx_E} {xs : Nat → Int32} {t : Nat} {K : zx_S → zx_S → Prop} {n m cb sd ln pp : Nat} {D R : zx_D} {q : Int32 × Nat × Nat × zx_D} {q' : Int32 × zx_D} (h1 : g_P_unpack sd ln D = some q) (h2 : g_R_unpack R = some q') (e : q.1 = q'.1) (hK : K ([4, q.2.1, q.2.2.1, pp], q.2.2.2) ([], q'.2)) : zj_unpack l E1 E2 xs t K ([cb, sd, ln, pp], D) ([], R) := by
  refine ⟨q.1, _, _, c_g_P_unpack (d := 2) h1, ?_, hK⟩
  rw [e]
  exact c_g_R_unpack (d := 0) h2
theorem zI_start : zI 0 0 zd_C zd_R := ⟨Nat.zero_le _, Nat.zero_le _, rfl, rfl, fun i h => absurd h (Nat.not_lt_zero i), rfl, rfl, fun i h => absurd h (Nat.not_lt_zero i), rfl, rfl, rfl, rfl, rfl, fun i _ _ => rfl, fun i _ _ => rfl⟩
