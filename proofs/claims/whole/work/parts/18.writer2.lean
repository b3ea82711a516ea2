/-! The writer: sizes of the draft, numbers, the container's parts -/
def dk (D : zx_D) : Prop := 0 ≤ zg_i D 18 1 ∧ zg_i D 18 1 ≤ 640
theorem dk_up {b : Int32} {D : zx_D} (h : dk D) : dk (fr_app 18 19 640 b D) ∧ zg_i D 18 1 ≤ zg_i (fr_app 18 19 640 b D) 18 1 := by
  have h1 := fr_app_sz (a := 19) (b := b) (n := 640) (by decide) h.1 (by decide)
  unfold fr_app at h1 ⊢
  split
  · rename_i h2
    rw [if_pos h2] at h1
    have e : zg_i (zp_i (zp_i D 19 (zn (zg_i D 18 1)) b) 18 1 (zg_i D 18 1 + 1)) 18 1 = zg_i D 18 1 + 1 := by rw [zg_pi, if_pos ⟨rfl, rfl⟩]
    unfold dk
    rw [e] at h1 ⊢
    have h0 := h.1
    rw [zi_le] at h0
    rw [zi_lt] at h2
    have e0 : (0 : Int32).toInt = 0 := rfl
    have e6 : (640 : Int32).toInt = 640 := rfl
    have e1 : (1 : Int32).toInt = 1 := rfl
    have e2 : (zg_i D 18 1 + 1).toInt = (zg_i D 18 1).toInt + 1 := by
      rw [Int32.toInt_add, e1, Int.bmod_eq_of_le (by omega) (by omega)]
    refine ⟨⟨h1, ?_⟩, ?_⟩
    · rw [zi_le, e2]; omega
    · rw [zi_le, e2]; omega
  · have e : zg_i (zp_i D 18 2 1) 18 1 = zg_i D 18 1 := by rw [zg_pi, if_neg (by omega)]
    unfold dk
    rw [e]
    exact ⟨h, Int32.le_refl _⟩
theorem dk_app {b : Int32} {D : zx_D} (h : dk D) : dk (fr_app 18 19 640 b D) := (dk_up h).1
theorem mo_app {b x : Int32} {D : zx_D} (h : dk D) (hx : x ≤ zg_i D 18 1) : x ≤ zg_i (fr_app 18 19 640 b D) 18 1 := Int32.le_trans hx (dk_up h).2
theorem dk_all' {g : Nat → Int32} {x : Int32} : ∀ {k j : Nat} {D : zx_D}, dk D → x ≤ zg_i D 18 1 → dk (fr_all 18 19 640 g k j D) ∧ x ≤ zg_i (fr_all 18 19 640 g k j D) 18 1
  | 0, _, _, h, hx => ⟨h, hx⟩
  | k + 1, j, D, h, hx => by
    have := dk_all' (g := g) (k := k) (j := j + 1) (dk_app (b := g j) h) (mo_app (b := g j) h hx)
    exact this
theorem dk_all {g : Nat → Int32} {k j : Nat} {D : zx_D} (h : dk D) : dk (fr_all 18 19 640 g k j D) := (dk_all' h (Int32.le_refl _)).1
theorem mo_all {g : Nat → Int32} {k j : Nat} {D : zx_D} {x : Int32} (h : dk D) (hx : x ≤ zg_i D 18 1) : x ≤ zg_i (fr_all 18 19 640 g k j D) 18 1 := (dk_all' h hx).2
theorem dk_fill' {s x : Int32} : ∀ {k : Nat} {D : zx_D}, dk D → x ≤ zg_i D 18 1 → dk (fr_fill s k D) ∧ x ≤ zg_i (fr_fill s k D) 18 1
  | 0, _, h, hx => ⟨h, hx⟩
  | k + 1, D, h, hx => by
    unfold fr_fill
    split
    · exact ⟨h, hx⟩
    · exact dk_fill' (dk_app h) (mo_app h hx)
theorem dk_fill {s : Int32} {k : Nat} {D : zx_D} (h : dk D) : dk (fr_fill s k D) := (dk_fill' h (Int32.le_refl _)).1
theorem mo_fill {s : Int32} {k : Nat} {D : zx_D} {x : Int32} (h : dk D) (hx : x ≤ zg_i D 18 1) : x ≤ zg_i (fr_fill s k D) 18 1 := (dk_fill' h hx).2
def fr_num : Nat → Int64 → zx_D → zx_D
  | 0, x, D => fr_app 18 19 640 x.toInt32 D
  | k + 1, x, D => if x < 128 then fr_app 18 19 640 x.toInt32 D else fr_num k (zo_lushr x 7) (fr_app 18 19 640 ((x &&& 127).toInt32 + 128) D)
theorem dk_num' {y : Int32} : ∀ {k : Nat} {x : Int64} {D : zx_D}, dk D → y ≤ zg_i D 18 1 → dk (fr_num k x D) ∧ y ≤ zg_i (fr_num k x D) 18 1
  | 0, _, _, h, hx => ⟨dk_app h, mo_app h hx⟩
  | k + 1, x, D, h, hx => by
    unfold fr_num
    split
    · exact ⟨dk_app h, mo_app h hx⟩
    · exact dk_num' (dk_app h) (mo_app h hx)
theorem dk_num {k : Nat} {x : Int64} {D : zx_D} (h : dk D) : dk (fr_num k x D) := (dk_num' h (Int32.le_refl _)).1
theorem mo_num {k : Nat} {x : Int64} {y : Int32} {D : zx_D} (h : dk D) (hx : y ≤ zg_i D 18 1) : y ≤ zg_i (fr_num k x D) 18 1 := (dk_num' h hx).2
theorem dk_two {n : Int32} {D : zx_D} (h : dk D) : dk (fs_two n D) := dk_app (dk_app h)
theorem mo_two {n x : Int32} {D : zx_D} (h : dk D) (hx : x ≤ zg_i D 18 1) : x ≤ zg_i (fs_two n D) 18 1 := mo_app (dk_app h) (mo_app h hx)
theorem fr_fill_i {q i : Nat} {s : Int32} (h1 : q ≠ 18) (h2 : q ≠ 19) : ∀ {k : Nat} {D : zx_D}, zg_i (fr_fill s k D) q i = zg_i D q i
  | 0, _ => rfl
  | k + 1, D => by
    unfold fr_fill
    split
    · rfl
    · rw [fr_fill_i h1 h2, fr_app_i h1 h2]
theorem fr_num_i {q i : Nat} (h1 : q ≠ 18) (h2 : q ≠ 19) : ∀ {k : Nat} {x : Int64} {D : zx_D}, zg_i (fr_num k x D) q i = zg_i D q i
  | 0, _, _ => fr_app_i h1 h2
  | k + 1, x, D => by
    unfold fr_num
    split
    · exact fr_app_i h1 h2
    · rw [fr_num_i h1 h2, fr_app_i h1 h2]
theorem fs_two_i {q i : Nat} {n : Int32} {D : zx_D} (h1 : q ≠ 18) (h2 : q ≠ 19) : zg_i (fs_two n D) q i = zg_i D q i := by
  unfold fs_two
  rw [fr_app_i h1 h2, fr_app_i h1 h2]
theorem fr_fill_2 {s : Int32} : ∀ {k : Nat} {D : zx_D}, (fr_fill s k D).2 = D.2
  | 0, _ => rfl
  | k + 1, D => by
    unfold fr_fill
    split
    · rfl
    · rw [fr_fill_2, fr_app_2]
theorem fr_num_2 : ∀ {k : Nat} {x : Int64} {D : zx_D}, (fr_num k x D).2 = D.2
  | 0, _, _ => fr_app_2
  | k + 1, x, D => by
    unfold fr_num
    split
    · exact fr_app_2
    · rw [fr_num_2, fr_app_2]
theorem fs_two_2 {n : Int32} {D : zx_D} : (fs_two n D).2 = D.2 := by
  unfold fs_two
  rw [fr_app_2, fr_app_2]
theorem zg_l2 (D D' : zx_D) (h : D.2 = D'.2) (p k : Nat) : zg_l D p k = zg_l D' p k := by unfold zg_l; rw [h]
theorem zsub {f t : Int32} (h : f ≤ t) (h0 : 0 ≤ f) : nI (zn f + (zn t - zn f)) = t := by
  have e1 := nI_zn h0
  have e2 := nI_zn (Int32.le_trans h0 h)
  have : zn f ≤ zn t := by
    have h1 := h
    rw [← e1, ← e2, nI_leI] at h1
    · exact h1
    · unfold zn; have := Int32.toNatClampNeg_lt f; omega
    · unfold zn; have := Int32.toNatClampNeg_lt t; omega
  rw [Nat.add_sub_cancel' this, e2]
theorem zn_le {t : Int32} {n : Nat} {k : Int32} (h : t ≤ k) (hk : k.toInt = n) : zn t ≤ n := by
  rw [zi_le, hk] at h
  unfold zn
  rw [Int32.toNatClampNeg]
  omega
theorem t_sum4i_19 {l : Launch} {E : zx_E} {d : Nat} {rf : List Nat} (f t : Int32) (D : zx_D) (h0 : 0 ≤ f) (h1 : f ≤ t) (h2 : t ≤ 640) : zx_MC l E 17 (d + 1) [.ref 19, .int f, .int t] (rf, D) (fun v S => v = some (.long (zc_sum4 (D.1 19) (zn t - zn f) (zn f))) ∧ S = (rf, D)) := by
  have := t_sum4_19 (l := l) (E := E) (d := d) (rf := rf) (zn f) (zn t - zn f) D (by have := zn_le (n := 640) h2 rfl; have := zn_le (t := f) (n := 640) (Int32.le_trans h1 h2) rfl; omega)
  rw [zsub h1 h0, nI_zn h0] at this
  exact this
theorem t_sum4i_22 {l : Launch} {E : zx_E} {d : Nat} {rf : List Nat} (f t : Int32) (D : zx_D) (h0 : 0 ≤ f) (h1 : f ≤ t) (h2 : t ≤ 6) : zx_MC l E 17 (d + 1) [.ref 22, .int f, .int t] (rf, D) (fun v S => v = some (.long (zc_sum4 (D.1 22) (zn t - zn f) (zn f))) ∧ S = (rf, D)) := by
  have := t_sum4_22 (l := l) (E := E) (d := d) (rf := rf) (zn f) (zn t - zn f) D (by have := zn_le (n := 6) h2 rfl; have := zn_le (t := f) (n := 6) (Int32.le_trans h1 h2) rfl; omega)
  rw [zsub h1 h0, nI_zn h0] at this
  exact this
set_option maxRecDepth 100000 in
set_option maxHeartbeats 4000000 in
theorem t_num {l : Launch} {E : zx_E} {d : Nat} {rf : List Nat} (x : Int64) (D : zx_D) (h0 : 0 ≤ zg_i D 18 1) : zx_MC l E 99 (d + 1) [.ref 17, .long x] (rf, D) (fun v S => v = none ∧ S = (rf, fr_num 8 x D)) := by
  refine zx_ofC (K := ck_Pkg_appendNumber) rfl (by decide +kernel) rfl ok_Pkg_appendNumber (Nat.le_of_ble_eq_true rfl) (fun Zp hr => ?_)
  show Zp (0, [some (.ref 17), some (.long x), none, none, none, none], [], rf, D)
  have loop : ∀ (k : Nat) (y : Int64) (D1 : zx_D), k ≤ 8 → 0 ≤ zg_i D1 18 1 → fr_num k y D1 = fr_num 8 x D → Zp (5, [some (.ref 17), some (.long x), none, some (.long y), none, some (.int (nI (8 - k)))], [], rf, D1) := by
    intro k
    induction k with
    | zero =>
      intro y D1 h8 h0 hf
      refine hr.1 2 True _ _ (9, [some (.ref 17), some (.long x), none, some (.long y), none, some (.int (nI (8 - 0)))], [.int 8, .int (nI (8 - 0))], rf, D1) rfl trivial ?_
      refine hr.2.1 _ (8 ≤ nI (8 - 0)) _ _ rfl (fun _ => ?_) (fun h => absurd (by decide) h)
      refine hr.1 4 True _ _ (54, [some (.ref 17), some (.long x), none, some (.long y), none, some (.int (nI (8 - 0)))], [.int ((y).toInt32), .ref 18], rf, D1) rfl trivial ?_
      refine hr.2.2.1 _ _ _ _ _ d rfl (by omega) (t_app_18 ((y).toInt32) D1 h0) (fun v S hq => ?_)
      obtain ⟨rfl, rfl⟩ := hq
      exact hr.2.2.2 _ _ _ rfl trivial ⟨rfl, by rw [← hf]; rfl⟩
    | succ k ih =>
      intro y D1 h8 h0 hf
      refine hr.1 2 True _ _ (9, [some (.ref 17), some (.long x), none, some (.long y), none, some (.int (nI (8 - (k + 1))))], [.int 8, .int (nI (8 - (k + 1)))], rf, D1) rfl trivial ?_
      refine hr.2.1 _ (8 ≤ nI (8 - (k + 1))) _ _ rfl (fun h => absurd h (by rw [show (8 : Int32) = nI 8 from rfl, nI_leI (by omega) (by omega)]; omega)) (fun _ => ?_)
      refine hr.1 2 True _ _ (16, [some (.ref 17), some (.long x), none, some (.long y), none, some (.int (nI (8 - (k + 1))))], [.long 128, .long y], rf, D1) rfl trivial ?_
      refine hr.2.1 _ (y < 128) _ _ rfl (fun h16 => ?_) (fun h16 => ?_)
      · skip
        refine hr.1 4 True _ _ (54, [some (.ref 17), some (.long x), none, some (.long y), none, some (.int (nI (8 - (k + 1))))], [.int ((y).toInt32), .ref 18], rf, D1) rfl trivial ?_
        refine hr.2.2.1 _ _ _ _ _ d rfl (by omega) (t_app_18 ((y).toInt32) D1 h0) (fun v S hq => ?_)
        obtain ⟨rfl, rfl⟩ := hq
        exact hr.2.2.2 _ _ _ rfl trivial ⟨rfl, by rw [← hf, fr_num, if_pos h16]⟩
      · skip
        refine hr.1 8 True _ _ (34, [some (.ref 17), some (.long x), none, some (.long y), none, some (.int (nI (8 - (k + 1))))], [.int ((((y &&& 127)).toInt32) + 128), .ref 18], rf, D1) rfl trivial ?_
        refine hr.2.2.1 _ _ _ _ _ d rfl (by omega) (t_app_18 ((((y &&& 127)).toInt32) + 128) D1 h0) (fun v S hq => ?_)
        obtain ⟨rfl, rfl⟩ := hq
        refine hr.1 6 True _ _ (5, [some (.ref 17), some (.long x), none, some (.long (zo_lushr y 7)), none, some (.int ((nI (8 - (k + 1))) + 1))], [], rf, fr_app 18 19 640 ((((y &&& 127)).toInt32) + 128) D1) rfl trivial ?_
        rw [nI_1, show 8 - (k + 1) + 1 = 8 - k by omega]
        exact ih _ _ (by omega) (fr_app_sz (by decide) h0 (by decide)) (by rw [fr_num, if_neg h16] at hf; exact hf)
  refine hr.1 4 True _ _ (5, [some (.ref 17), some (.long x), none, some (.long x), none, some (.int 0)], [], rf, D) rfl trivial ?_
  exact loop 8 x D (by omega) h0 rfl
def fs_wbegin (sort props : Int32) (D : zx_D) : zx_D := (fr_all 18 19 640 (zb_low (zc_sum4 (((fr_app 18 19 640 sort (fr_app 18 19 640 0 (fr_all 18 19 640 ro_f 6 0 (zp_i (zp_i (zp_i (zp_i D 17 5 sort) 17 6 props) 18 1 0) 18 2 0))))).1 19) (zn 8 - zn 6) (zn 6))) 4 0 (fr_app 18 19 640 sort (fr_app 18 19 640 0 (fr_all 18 19 640 ro_f 6 0 (zp_i (zp_i (zp_i (zp_i D 17 5 sort) 17 6 props) 18 1 0) 18 2 0)))))
set_option maxRecDepth 100000 in
set_option maxHeartbeats 4000000 in
theorem t_wbegin {l : Launch} {E : zx_E} {d : Nat} {cb sd ln pp : Nat} (sort props : Int32) (D : zx_D)  : zx_MC l E 86 (d + 2) [.ref 17, .ref 1, .int sort, .int props] ([cb, sd, ln, pp], D) (fun v S => v = none ∧ S = ([cb, sd, ln, 1], fs_wbegin sort props D)) := by
  refine zx_ofC (K := ck_Pkg_begin) rfl (by decide +kernel) rfl ok_Pkg_begin (Nat.le_of_ble_eq_true rfl) (fun Zp hr => ?_)
  show Zp (0, [some (.ref 17), some (.ref 1), some (.int sort), some (.int props)], [], [cb, sd, ln, pp], D)
  refine hr.1 11 True _ _ (19, [some (.ref 17), some (.ref 1), some (.int sort), some (.int props)], [.ref 18], [cb, sd, ln, 1], zp_i (zp_i D 17 5 sort) 17 6 props) rfl trivial ?_
  refine hr.2.2.1 _ _ _ _ _ (d + 1) rfl (by omega) (t_clear_18 (zp_i (zp_i D 17 5 sort) 17 6 props)) (fun v S hq => ?_)
  obtain ⟨rfl, rfl⟩ := hq
  refine hr.1 6 True _ _ (34, [some (.ref 17), some (.ref 1), some (.int sort), some (.int props)], [.int 6, .int 0, .ref 23, .ref 18], [cb, sd, ln, 1], zp_i (zp_i (zp_i (zp_i D 17 5 sort) 17 6 props) 18 1 0) 18 2 0) rfl trivial ?_
  refine hr.2.2.1 _ _ _ _ _ (d + 1) rfl (by omega) (t_all_18_23 0 6 (zp_i (zp_i (zp_i (zp_i D 17 5 sort) 17 6 props) 18 1 0) 18 2 0) (show dk (zp_i (zp_i (zp_i (zp_i D 17 5 sort) 17 6 props) 18 1 0) 18 2 0) from ⟨(by decide : (0 : Int32) ≤ 0), (by decide : (0 : Int32) ≤ 640)⟩).1 (by decide)) (fun v S hq => ?_)
  obtain ⟨rfl, rfl⟩ := hq
  have f1_0 : dk (fr_all 18 19 640 ro_f 6 0 (zp_i (zp_i (zp_i (zp_i D 17 5 sort) 17 6 props) 18 1 0) 18 2 0)) := dk_all (show dk (zp_i (zp_i (zp_i (zp_i D 17 5 sort) 17 6 props) 18 1 0) 18 2 0) from ⟨(by decide : (0 : Int32) ≤ 0), (by decide : (0 : Int32) ≤ 640)⟩)
  have f1_1 : zg_i (zp_i (zp_i (zp_i (zp_i D 17 5 sort) 17 6 props) 18 1 0) 18 2 0) 18 1 ≤ zg_i (fr_all 18 19 640 ro_f 6 0 (zp_i (zp_i (zp_i (zp_i D 17 5 sort) 17 6 props) 18 1 0) 18 2 0)) 18 1 := mo_all (show dk (zp_i (zp_i (zp_i (zp_i D 17 5 sort) 17 6 props) 18 1 0) 18 2 0) from ⟨(by decide : (0 : Int32) ≤ 0), (by decide : (0 : Int32) ≤ 640)⟩) (Int32.le_refl _)
  generalize hD1 : fr_all 18 19 640 ro_f 6 0 (zp_i (zp_i (zp_i (zp_i D 17 5 sort) 17 6 props) 18 1 0) 18 2 0) = D1 at f1_0 f1_1 ⊢
  refine hr.1 3 True _ _ (42, [some (.ref 17), some (.ref 1), some (.int sort), some (.int props)], [.int 0, .ref 18], [cb, sd, ln, 1], D1) rfl trivial ?_
  refine hr.2.2.1 _ _ _ _ _ (d + 1) rfl (by omega) (t_app_18 0 D1 f1_0.1) (fun v S hq => ?_)
  obtain ⟨rfl, rfl⟩ := hq
  have f2_0 : dk (fr_app 18 19 640 0 D1) := dk_app f1_0
  have f2_1 : zg_i D1 18 1 ≤ zg_i (fr_app 18 19 640 0 D1) 18 1 := mo_app f1_0 (Int32.le_refl _)
  generalize hD2 : fr_app 18 19 640 0 D1 = D2 at f2_0 f2_1 ⊢
  refine hr.1 4 True _ _ (53, [some (.ref 17), some (.ref 1), some (.int sort), some (.int props)], [.int (zg_i D2 17 5), .ref 18], [cb, sd, ln, 1], D2) rfl trivial ?_
  rw [show zg_i D2 17 5 = sort from (by subst hD2; subst hD1; simp (decide := true) only [zg_l2 _ _ fr_app_2, zg_l2 _ _ fr_all_2, zg_l2 _ _ fr_fill_2, zg_l2 _ _ fr_num_2, zg_l2 _ _ fs_two_2, zg_pl, zg_li, fr_app_i, fr_all_i, fr_fill_i, fr_num_i, fs_two_i, zg_pi, zg_il, if_true, if_false, and_true, and_false, true_and, false_and])]
  refine hr.2.2.1 _ _ _ _ _ (d + 1) rfl (by omega) (t_app_18 sort D2 f2_0.1) (fun v S hq => ?_)
  obtain ⟨rfl, rfl⟩ := hq
  have f3_0 : dk (fr_app 18 19 640 sort D2) := dk_app f2_0
  have f3_1 : zg_i D2 18 1 ≤ zg_i (fr_app 18 19 640 sort D2) 18 1 := mo_app f2_0 (Int32.le_refl _)
  generalize hD3 : fr_app 18 19 640 sort D2 = D3 at f3_0 f3_1 ⊢
  refine hr.1 7 True _ _ (71, [some (.ref 17), some (.ref 1), some (.int sort), some (.int props)], [.int 8, .int 6, .ref 19, .ref 18], [cb, sd, ln, 1], D3) rfl trivial ?_
  refine hr.2.2.1 _ _ _ _ _ (d + 1) rfl (by omega) (t_sum4i_19 6 8 D3 (by decide) (by decide) (by decide)) (fun v S hq => ?_)
  obtain ⟨rfl, rfl⟩ := hq
  refine hr.1 1 True _ _ (75, [some (.ref 17), some (.ref 1), some (.int sort), some (.int props)], [.int 4, .long (zc_sum4 ((D3).1 19) (zn 8 - zn 6) (zn 6)), .ref 18], [cb, sd, ln, 1], D3) rfl trivial ?_
  refine hr.2.2.1 _ _ _ _ _ (d + 1) rfl (by omega) (t_low_18 (zc_sum4 ((D3).1 19) (zn 8 - zn 6) (zn 6)) 4 D3 f3_0.1 (by decide)) (fun v S hq => ?_)
  obtain ⟨rfl, rfl⟩ := hq
  have f4_0 : dk (fr_all 18 19 640 (zb_low (zc_sum4 ((D3).1 19) (zn 8 - zn 6) (zn 6))) 4 0 D3) := dk_all f3_0
  have f4_1 : zg_i D3 18 1 ≤ zg_i (fr_all 18 19 640 (zb_low (zc_sum4 ((D3).1 19) (zn 8 - zn 6) (zn 6))) 4 0 D3) 18 1 := mo_all f3_0 (Int32.le_refl _)
  generalize hD4 : fr_all 18 19 640 (zb_low (zc_sum4 ((D3).1 19) (zn 8 - zn 6) (zn 6))) 4 0 D3 = D4 at f4_0 f4_1 ⊢
  exact hr.2.2.2 _ _ _ rfl trivial ⟨rfl, (by subst hD4; subst hD3; subst hD2; subst hD1; rw [fs_wbegin])⟩
def fs_whead  (D : zx_D) : zx_D := (fr_all 18 19 640 (zb_low (zc_sum4 (((fr_all 18 19 640 (zb_low 0) 4 0 (fr_app 18 19 640 1 (fr_app 18 19 640 33 (fr_app 18 19 640 0 (fr_app 18 19 640 2 (zp_i (zp_i (zp_i (zp_i D 17 7 (zg_i D 18 1)) 17 10 1) 17 11 1) 17 12 1))))))).1 19) (zn (zg_i (fr_all 18 19 640 (zb_low 0) 4 0 (fr_app 18 19 640 1 (fr_app 18 19 640 33 (fr_app 18 19 640 0 (fr_app 18 19 640 2 (zp_i (zp_i (zp_i (zp_i D 17 7 (zg_i D 18 1)) 17 10 1) 17 11 1) 17 12 1)))))) 18 1) - zn (zg_i D 18 1)) (zn (zg_i D 18 1)))) 4 0 (fr_all 18 19 640 (zb_low 0) 4 0 (fr_app 18 19 640 1 (fr_app 18 19 640 33 (fr_app 18 19 640 0 (fr_app 18 19 640 2 (zp_i (zp_i (zp_i (zp_i D 17 7 (zg_i D 18 1)) 17 10 1) 17 11 1) 17 12 1)))))))
set_option maxRecDepth 100000 in
set_option maxHeartbeats 4000000 in
theorem t_whead {l : Launch} {E : zx_E} {d : Nat} {cb sd ln : Nat}  (D : zx_D) (hd : dk D) : zx_MC l E 87 (d + 2) [.ref 17] ([cb, sd, ln, 1], D) (fun v S => v = none ∧ S = ([cb, sd, ln, 1], fs_whead D)) := by
  refine zx_ofC (K := ck_Pkg_writeHead) rfl (by decide +kernel) rfl ok_Pkg_writeHead (Nat.le_of_ble_eq_true rfl) (fun Zp hr => ?_)
  show Zp (0, [some (.ref 17)], [], [cb, sd, ln, 1], D)
  refine hr.1 17 True _ _ (31, [some (.ref 17)], [.int 2, .ref 18], [cb, sd, ln, 1], zp_i (zp_i (zp_i (zp_i D 17 7 (zg_i D 18 1)) 17 10 1) 17 11 1) 17 12 1) rfl ⟨⟨⟨trivial, Or.inr rfl⟩, Or.inr rfl⟩, Or.inr rfl⟩ ?_
  refine hr.2.2.1 _ _ _ _ _ (d + 1) rfl (by omega) (t_app_18 2 (zp_i (zp_i (zp_i (zp_i D 17 7 (zg_i D 18 1)) 17 10 1) 17 11 1) 17 12 1) (show dk (zp_i (zp_i (zp_i (zp_i D 17 7 (zg_i D 18 1)) 17 10 1) 17 11 1) 17 12 1) from hd).1) (fun v S hq => ?_)
  obtain ⟨rfl, rfl⟩ := hq
  have f1_0 : dk (fr_app 18 19 640 2 (zp_i (zp_i (zp_i (zp_i D 17 7 (zg_i D 18 1)) 17 10 1) 17 11 1) 17 12 1)) := dk_app (show dk (zp_i (zp_i (zp_i (zp_i D 17 7 (zg_i D 18 1)) 17 10 1) 17 11 1) 17 12 1) from hd)
  have f1_1 : zg_i (zp_i (zp_i (zp_i (zp_i D 17 7 (zg_i D 18 1)) 17 10 1) 17 11 1) 17 12 1) 18 1 ≤ zg_i (fr_app 18 19 640 2 (zp_i (zp_i (zp_i (zp_i D 17 7 (zg_i D 18 1)) 17 10 1) 17 11 1) 17 12 1)) 18 1 := mo_app (show dk (zp_i (zp_i (zp_i (zp_i D 17 7 (zg_i D 18 1)) 17 10 1) 17 11 1) 17 12 1) from hd) (Int32.le_refl _)
  generalize hD1 : fr_app 18 19 640 2 (zp_i (zp_i (zp_i (zp_i D 17 7 (zg_i D 18 1)) 17 10 1) 17 11 1) 17 12 1) = D1 at f1_0 f1_1 ⊢
  refine hr.1 3 True _ _ (39, [some (.ref 17)], [.int 0, .ref 18], [cb, sd, ln, 1], D1) rfl trivial ?_
  refine hr.2.2.1 _ _ _ _ _ (d + 1) rfl (by omega) (t_app_18 0 D1 f1_0.1) (fun v S hq => ?_)
  obtain ⟨rfl, rfl⟩ := hq
  have f2_0 : dk (fr_app 18 19 640 0 D1) := dk_app f1_0
  have f2_1 : zg_i D1 18 1 ≤ zg_i (fr_app 18 19 640 0 D1) 18 1 := mo_app f1_0 (Int32.le_refl _)
  generalize hD2 : fr_app 18 19 640 0 D1 = D2 at f2_0 f2_1 ⊢
  refine hr.1 3 True _ _ (48, [some (.ref 17)], [.int 33, .ref 18], [cb, sd, ln, 1], D2) rfl trivial ?_
  refine hr.2.2.1 _ _ _ _ _ (d + 1) rfl (by omega) (t_app_18 33 D2 f2_0.1) (fun v S hq => ?_)
  obtain ⟨rfl, rfl⟩ := hq
  have f3_0 : dk (fr_app 18 19 640 33 D2) := dk_app f2_0
  have f3_1 : zg_i D2 18 1 ≤ zg_i (fr_app 18 19 640 33 D2) 18 1 := mo_app f2_0 (Int32.le_refl _)
  generalize hD3 : fr_app 18 19 640 33 D2 = D3 at f3_0 f3_1 ⊢
  refine hr.1 3 True _ _ (56, [some (.ref 17)], [.int 1, .ref 18], [cb, sd, ln, 1], D3) rfl trivial ?_
  refine hr.2.2.1 _ _ _ _ _ (d + 1) rfl (by omega) (t_app_18 1 D3 f3_0.1) (fun v S hq => ?_)
  obtain ⟨rfl, rfl⟩ := hq
  have f4_0 : dk (fr_app 18 19 640 1 D3) := dk_app f3_0
  have f4_1 : zg_i D3 18 1 ≤ zg_i (fr_app 18 19 640 1 D3) 18 1 := mo_app f3_0 (Int32.le_refl _)
  generalize hD4 : fr_app 18 19 640 1 D3 = D4 at f4_0 f4_1 ⊢
  refine hr.1 4 True _ _ (65, [some (.ref 17)], [.int 4, .long 0, .ref 18], [cb, sd, ln, 1], D4) rfl trivial ?_
  refine hr.2.2.1 _ _ _ _ _ (d + 1) rfl (by omega) (t_low_18 0 4 D4 f4_0.1 (by decide)) (fun v S hq => ?_)
  obtain ⟨rfl, rfl⟩ := hq
  have f5_0 : dk (fr_all 18 19 640 (zb_low 0) 4 0 D4) := dk_all f4_0
  have f5_1 : zg_i D4 18 1 ≤ zg_i (fr_all 18 19 640 (zb_low 0) 4 0 D4) 18 1 := mo_all f4_0 (Int32.le_refl _)
  generalize hD5 : fr_all 18 19 640 (zb_low 0) 4 0 D4 = D5 at f5_0 f5_1 ⊢
  refine hr.1 10 True _ _ (90, [some (.ref 17)], [.int (zg_i D5 18 1), .int (zg_i D5 17 7), .ref 19, .ref 18], [cb, sd, ln, 1], D5) rfl trivial ?_
  rw [show zg_i D5 17 7 = zg_i D 18 1 from (by subst hD5; subst hD4; subst hD3; subst hD2; subst hD1; simp (decide := true) only [zg_l2 _ _ fr_app_2, zg_l2 _ _ fr_all_2, zg_l2 _ _ fr_fill_2, zg_l2 _ _ fr_num_2, zg_l2 _ _ fs_two_2, zg_pl, zg_li, fr_app_i, fr_all_i, fr_fill_i, fr_num_i, fs_two_i, zg_pi, zg_il, if_true, if_false, and_true, and_false, true_and, false_and])]
  refine hr.2.2.1 _ _ _ _ _ (d + 1) rfl (by omega) (t_sum4i_19 (zg_i D 18 1) (zg_i D5 18 1) D5 hd.1 (Int32.le_trans (Int32.le_trans (Int32.le_trans (Int32.le_trans (Int32.le_trans (Int32.le_refl _) f1_1) f2_1) f3_1) f4_1) f5_1) f5_0.2) (fun v S hq => ?_)
  obtain ⟨rfl, rfl⟩ := hq
  refine hr.1 1 True _ _ (94, [some (.ref 17)], [.int 4, .long (zc_sum4 ((D5).1 19) (zn (zg_i D5 18 1) - zn (zg_i D 18 1)) (zn (zg_i D 18 1))), .ref 18], [cb, sd, ln, 1], D5) rfl trivial ?_
  refine hr.2.2.1 _ _ _ _ _ (d + 1) rfl (by omega) (t_low_18 (zc_sum4 ((D5).1 19) (zn (zg_i D5 18 1) - zn (zg_i D 18 1)) (zn (zg_i D 18 1))) 4 D5 f5_0.1 (by decide)) (fun v S hq => ?_)
  obtain ⟨rfl, rfl⟩ := hq
  have f6_0 : dk (fr_all 18 19 640 (zb_low (zc_sum4 ((D5).1 19) (zn (zg_i D5 18 1) - zn (zg_i D 18 1)) (zn (zg_i D 18 1)))) 4 0 D5) := dk_all f5_0
  have f6_1 : zg_i D5 18 1 ≤ zg_i (fr_all 18 19 640 (zb_low (zc_sum4 ((D5).1 19) (zn (zg_i D5 18 1) - zn (zg_i D 18 1)) (zn (zg_i D 18 1)))) 4 0 D5) 18 1 := mo_all f5_0 (Int32.le_refl _)
  generalize hD6 : fr_all 18 19 640 (zb_low (zc_sum4 ((D5).1 19) (zn (zg_i D5 18 1) - zn (zg_i D 18 1)) (zn (zg_i D 18 1)))) 4 0 D5 = D6 at f6_0 f6_1 ⊢
  exact hr.2.2.2 _ _ _ rfl trivial ⟨rfl, (by subst hD6; subst hD5; subst hD4; subst hD3; subst hD2; subst hD1; rw [fs_whead])⟩
def fs_windex  (D : zx_D) : zx_D := if zg_i D 1 1 ≤ 0 then zp_i (fr_all 18 19 640 (zb_low (zc_sum4 (((fr_fill (zg_i D 18 1) 3 (fr_num 8 0 (fr_app 18 19 640 0 D)))).1 19) (zn (zg_i (fr_fill (zg_i D 18 1) 3 (fr_num 8 0 (fr_app 18 19 640 0 D))) 18 1) - zn (zg_i D 18 1)) (zn (zg_i D 18 1)))) 4 0 (fr_fill (zg_i D 18 1) 3 (fr_num 8 0 (fr_app 18 19 640 0 D)))) 17 9 ((zg_i (fr_all 18 19 640 (zb_low (zc_sum4 (((fr_fill (zg_i D 18 1) 3 (fr_num 8 0 (fr_app 18 19 640 0 D)))).1 19) (zn (zg_i (fr_fill (zg_i D 18 1) 3 (fr_num 8 0 (fr_app 18 19 640 0 D))) 18 1) - zn (zg_i D 18 1)) (zn (zg_i D 18 1)))) 4 0 (fr_fill (zg_i D 18 1) 3 (fr_num 8 0 (fr_app 18 19 640 0 D)))) 18 1) - (zg_i D 18 1)) else zp_i (fr_all 18 19 640 (zb_low (zc_sum4 (((fr_fill (zg_i D 18 1) 3 (fr_num 8 (((zg_i D 1 1)).toInt64) (fr_num 8 (zg_l D 17 8) (fr_num 8 1 (fr_app 18 19 640 0 D)))))).1 19) (zn (zg_i (fr_fill (zg_i D 18 1) 3 (fr_num 8 (((zg_i D 1 1)).toInt64) (fr_num 8 (zg_l D 17 8) (fr_num 8 1 (fr_app 18 19 640 0 D))))) 18 1) - zn (zg_i D 18 1)) (zn (zg_i D 18 1)))) 4 0 (fr_fill (zg_i D 18 1) 3 (fr_num 8 (((zg_i D 1 1)).toInt64) (fr_num 8 (zg_l D 17 8) (fr_num 8 1 (fr_app 18 19 640 0 D)))))) 17 9 ((zg_i (fr_all 18 19 640 (zb_low (zc_sum4 (((fr_fill (zg_i D 18 1) 3 (fr_num 8 (((zg_i D 1 1)).toInt64) (fr_num 8 (zg_l D 17 8) (fr_num 8 1 (fr_app 18 19 640 0 D)))))).1 19) (zn (zg_i (fr_fill (zg_i D 18 1) 3 (fr_num 8 (((zg_i D 1 1)).toInt64) (fr_num 8 (zg_l D 17 8) (fr_num 8 1 (fr_app 18 19 640 0 D))))) 18 1) - zn (zg_i D 18 1)) (zn (zg_i D 18 1)))) 4 0 (fr_fill (zg_i D 18 1) 3 (fr_num 8 (((zg_i D 1 1)).toInt64) (fr_num 8 (zg_l D 17 8) (fr_num 8 1 (fr_app 18 19 640 0 D)))))) 18 1) - (zg_i D 18 1))
set_option maxRecDepth 100000 in
set_option maxHeartbeats 4000000 in
theorem t_windex {l : Launch} {E : zx_E} {d : Nat} {cb sd ln : Nat}  (D : zx_D) (hd : dk D) : zx_MC l E 100 (d + 2) [.ref 17] ([cb, sd, ln, 1], D) (fun v S => v = none ∧ S = ([cb, sd, ln, 1], fs_windex D)) := by
  refine zx_ofC (K := ck_Pkg_writeIndex) rfl (by decide +kernel) rfl ok_Pkg_writeIndex (Nat.le_of_ble_eq_true rfl) (fun Zp hr => ?_)
  show Zp (0, [some (.ref 17), none], [], [cb, sd, ln, 1], D)
  refine hr.1 7 True _ _ (13, [some (.ref 17), some (.int (zg_i D 18 1))], [.int 0, .ref 18], [cb, sd, ln, 1], D) rfl trivial ?_
  refine hr.2.2.1 _ _ _ _ _ (d + 1) rfl (by omega) (t_app_18 0 D hd.1) (fun v S hq => ?_)
  obtain ⟨rfl, rfl⟩ := hq
  have f1_0 : dk (fr_app 18 19 640 0 D) := dk_app hd
  have f1_1 : zg_i D 18 1 ≤ zg_i (fr_app 18 19 640 0 D) 18 1 := mo_app hd (Int32.le_refl _)
  generalize hD1 : fr_app 18 19 640 0 D = D1 at f1_0 f1_1 ⊢
  refine hr.1 3 True _ _ (23, [some (.ref 17), some (.int (zg_i D 18 1))], [.int (zg_i D1 1 1)], [cb, sd, ln, 1], D1) rfl trivial ?_
  rw [show zg_i D1 1 1 = zg_i D 1 1 from (by subst hD1; simp (decide := true) only [zg_l2 _ _ fr_app_2, zg_l2 _ _ fr_all_2, zg_l2 _ _ fr_fill_2, zg_l2 _ _ fr_num_2, zg_l2 _ _ fs_two_2, zg_pl, zg_li, fr_app_i, fr_all_i, fr_fill_i, fr_num_i, fs_two_i, zg_pi, zg_il, if_true, if_false, and_true, and_false, true_and, false_and])]
  refine hr.2.1 _ (zg_i D 1 1 ≤ 0) _ _ rfl (fun h23 => ?_) (fun h23 => ?_)
  · skip
    refine hr.1 2 True _ _ (56, [some (.ref 17), some (.int (zg_i D 18 1))], [.long 0, .ref 17], [cb, sd, ln, 1], D1) rfl trivial ?_
    refine hr.2.2.1 _ _ _ _ _ (d + 1) rfl (by omega) (t_num 0 D1 f1_0.1) (fun v S hq => ?_)
    obtain ⟨rfl, rfl⟩ := hq
    have f2_0 : dk (fr_num 8 0 D1) := dk_num f1_0
    have f2_1 : zg_i D1 18 1 ≤ zg_i (fr_num 8 0 D1) 18 1 := mo_num f1_0 (Int32.le_refl _)
    generalize hD2 : fr_num 8 0 D1 = D2 at f2_0 f2_1 ⊢
    refine hr.1 2 True _ _ (61, [some (.ref 17), some (.int (zg_i D 18 1))], [.int (zg_i D 18 1), .ref 17], [cb, sd, ln, 1], D2) rfl trivial ?_
    refine hr.2.2.1 _ _ _ _ _ (d + 1) rfl (by omega) (t_fill (zg_i D 18 1) D2 f2_0.1) (fun v S hq => ?_)
    obtain ⟨rfl, rfl⟩ := hq
    have f3_0 : dk (fr_fill (zg_i D 18 1) 3 D2) := dk_fill f2_0
    have f3_1 : zg_i D2 18 1 ≤ zg_i (fr_fill (zg_i D 18 1) 3 D2) 18 1 := mo_fill f2_0 (Int32.le_refl _)
    generalize hD3 : fr_fill (zg_i D 18 1) 3 D2 = D3 at f3_0 f3_1 ⊢
    refine hr.1 9 True _ _ (83, [some (.ref 17), some (.int (zg_i D 18 1))], [.int (zg_i D3 18 1), .int (zg_i D 18 1), .ref 19, .ref 18], [cb, sd, ln, 1], D3) rfl trivial ?_
    refine hr.2.2.1 _ _ _ _ _ (d + 1) rfl (by omega) (t_sum4i_19 (zg_i D 18 1) (zg_i D3 18 1) D3 hd.1 (Int32.le_trans (Int32.le_trans (Int32.le_trans (Int32.le_refl _) f1_1) f2_1) f3_1) f3_0.2) (fun v S hq => ?_)
    obtain ⟨rfl, rfl⟩ := hq
    refine hr.1 1 True _ _ (87, [some (.ref 17), some (.int (zg_i D 18 1))], [.int 4, .long (zc_sum4 ((D3).1 19) (zn (zg_i D3 18 1) - zn (zg_i D 18 1)) (zn (zg_i D 18 1))), .ref 18], [cb, sd, ln, 1], D3) rfl trivial ?_
    refine hr.2.2.1 _ _ _ _ _ (d + 1) rfl (by omega) (t_low_18 (zc_sum4 ((D3).1 19) (zn (zg_i D3 18 1) - zn (zg_i D 18 1)) (zn (zg_i D 18 1))) 4 D3 f3_0.1 (by decide)) (fun v S hq => ?_)
    obtain ⟨rfl, rfl⟩ := hq
    have f4_0 : dk (fr_all 18 19 640 (zb_low (zc_sum4 ((D3).1 19) (zn (zg_i D3 18 1) - zn (zg_i D 18 1)) (zn (zg_i D 18 1)))) 4 0 D3) := dk_all f3_0
    have f4_1 : zg_i D3 18 1 ≤ zg_i (fr_all 18 19 640 (zb_low (zc_sum4 ((D3).1 19) (zn (zg_i D3 18 1) - zn (zg_i D 18 1)) (zn (zg_i D 18 1)))) 4 0 D3) 18 1 := mo_all f3_0 (Int32.le_refl _)
    generalize hD4 : fr_all 18 19 640 (zb_low (zc_sum4 ((D3).1 19) (zn (zg_i D3 18 1) - zn (zg_i D 18 1)) (zn (zg_i D 18 1)))) 4 0 D3 = D4 at f4_0 f4_1 ⊢
    refine hr.1 7 True _ _ (103, [some (.ref 17), some (.int (zg_i D 18 1))], [], [cb, sd, ln, 1], zp_i D4 17 9 ((zg_i D4 18 1) - (zg_i D 18 1))) rfl trivial ?_
    exact hr.2.2.2 _ _ _ rfl trivial ⟨rfl, (by subst hD4; subst hD3; subst hD2; subst hD1; rw [fs_windex, if_pos h23])⟩
  · skip
    refine hr.1 2 True _ _ (28, [some (.ref 17), some (.int (zg_i D 18 1))], [.long 1, .ref 17], [cb, sd, ln, 1], D1) rfl trivial ?_
    refine hr.2.2.1 _ _ _ _ _ (d + 1) rfl (by omega) (t_num 1 D1 f1_0.1) (fun v S hq => ?_)
    obtain ⟨rfl, rfl⟩ := hq
    have f5_0 : dk (fr_num 8 1 D1) := dk_num f1_0
    have f5_1 : zg_i D1 18 1 ≤ zg_i (fr_num 8 1 D1) 18 1 := mo_num f1_0 (Int32.le_refl _)
    generalize hD5 : fr_num 8 1 D1 = D5 at f5_0 f5_1 ⊢
    refine hr.1 3 True _ _ (36, [some (.ref 17), some (.int (zg_i D 18 1))], [.long (zg_l D5 17 8), .ref 17], [cb, sd, ln, 1], D5) rfl trivial ?_
    rw [show zg_l D5 17 8 = zg_l D 17 8 from (by subst hD5; subst hD1; simp (decide := true) only [zg_l2 _ _ fr_app_2, zg_l2 _ _ fr_all_2, zg_l2 _ _ fr_fill_2, zg_l2 _ _ fr_num_2, zg_l2 _ _ fs_two_2, zg_pl, zg_li, fr_app_i, fr_all_i, fr_fill_i, fr_num_i, fs_two_i, zg_pi, zg_il, if_true, if_false, and_true, and_false, true_and, false_and])]
    refine hr.2.2.1 _ _ _ _ _ (d + 1) rfl (by omega) (t_num (zg_l D 17 8) D5 f5_0.1) (fun v S hq => ?_)
    obtain ⟨rfl, rfl⟩ := hq
    have f6_0 : dk (fr_num 8 (zg_l D 17 8) D5) := dk_num f5_0
    have f6_1 : zg_i D5 18 1 ≤ zg_i (fr_num 8 (zg_l D 17 8) D5) 18 1 := mo_num f5_0 (Int32.le_refl _)
    generalize hD6 : fr_num 8 (zg_l D 17 8) D5 = D6 at f6_0 f6_1 ⊢
    refine hr.1 5 True _ _ (48, [some (.ref 17), some (.int (zg_i D 18 1))], [.long (((zg_i D6 1 1)).toInt64), .ref 17], [cb, sd, ln, 1], D6) rfl trivial ?_
    rw [show zg_i D6 1 1 = zg_i D 1 1 from (by subst hD6; subst hD5; subst hD1; simp (decide := true) only [zg_l2 _ _ fr_app_2, zg_l2 _ _ fr_all_2, zg_l2 _ _ fr_fill_2, zg_l2 _ _ fr_num_2, zg_l2 _ _ fs_two_2, zg_pl, zg_li, fr_app_i, fr_all_i, fr_fill_i, fr_num_i, fs_two_i, zg_pi, zg_il, if_true, if_false, and_true, and_false, true_and, false_and])]
    refine hr.2.2.1 _ _ _ _ _ (d + 1) rfl (by omega) (t_num (((zg_i D 1 1)).toInt64) D6 f6_0.1) (fun v S hq => ?_)
    obtain ⟨rfl, rfl⟩ := hq
    have f7_0 : dk (fr_num 8 (((zg_i D 1 1)).toInt64) D6) := dk_num f6_0
    have f7_1 : zg_i D6 18 1 ≤ zg_i (fr_num 8 (((zg_i D 1 1)).toInt64) D6) 18 1 := mo_num f6_0 (Int32.le_refl _)
    generalize hD7 : fr_num 8 (((zg_i D 1 1)).toInt64) D6 = D7 at f7_0 f7_1 ⊢
    refine hr.1 3 True _ _ (61, [some (.ref 17), some (.int (zg_i D 18 1))], [.int (zg_i D 18 1), .ref 17], [cb, sd, ln, 1], D7) rfl trivial ?_
    refine hr.2.2.1 _ _ _ _ _ (d + 1) rfl (by omega) (t_fill (zg_i D 18 1) D7 f7_0.1) (fun v S hq => ?_)
    obtain ⟨rfl, rfl⟩ := hq
    have f8_0 : dk (fr_fill (zg_i D 18 1) 3 D7) := dk_fill f7_0
    have f8_1 : zg_i D7 18 1 ≤ zg_i (fr_fill (zg_i D 18 1) 3 D7) 18 1 := mo_fill f7_0 (Int32.le_refl _)
    generalize hD8 : fr_fill (zg_i D 18 1) 3 D7 = D8 at f8_0 f8_1 ⊢
    refine hr.1 9 True _ _ (83, [some (.ref 17), some (.int (zg_i D 18 1))], [.int (zg_i D8 18 1), .int (zg_i D 18 1), .ref 19, .ref 18], [cb, sd, ln, 1], D8) rfl trivial ?_
    refine hr.2.2.1 _ _ _ _ _ (d + 1) rfl (by omega) (t_sum4i_19 (zg_i D 18 1) (zg_i D8 18 1) D8 hd.1 (Int32.le_trans (Int32.le_trans (Int32.le_trans (Int32.le_trans (Int32.le_trans (Int32.le_refl _) f1_1) f5_1) f6_1) f7_1) f8_1) f8_0.2) (fun v S hq => ?_)
    obtain ⟨rfl, rfl⟩ := hq
    refine hr.1 1 True _ _ (87, [some (.ref 17), some (.int (zg_i D 18 1))], [.int 4, .long (zc_sum4 ((D8).1 19) (zn (zg_i D8 18 1) - zn (zg_i D 18 1)) (zn (zg_i D 18 1))), .ref 18], [cb, sd, ln, 1], D8) rfl trivial ?_
    refine hr.2.2.1 _ _ _ _ _ (d + 1) rfl (by omega) (t_low_18 (zc_sum4 ((D8).1 19) (zn (zg_i D8 18 1) - zn (zg_i D 18 1)) (zn (zg_i D 18 1))) 4 D8 f8_0.1 (by decide)) (fun v S hq => ?_)
    obtain ⟨rfl, rfl⟩ := hq
    have f9_0 : dk (fr_all 18 19 640 (zb_low (zc_sum4 ((D8).1 19) (zn (zg_i D8 18 1) - zn (zg_i D 18 1)) (zn (zg_i D 18 1)))) 4 0 D8) := dk_all f8_0
    have f9_1 : zg_i D8 18 1 ≤ zg_i (fr_all 18 19 640 (zb_low (zc_sum4 ((D8).1 19) (zn (zg_i D8 18 1) - zn (zg_i D 18 1)) (zn (zg_i D 18 1)))) 4 0 D8) 18 1 := mo_all f8_0 (Int32.le_refl _)
    generalize hD9 : fr_all 18 19 640 (zb_low (zc_sum4 ((D8).1 19) (zn (zg_i D8 18 1) - zn (zg_i D 18 1)) (zn (zg_i D 18 1)))) 4 0 D8 = D9 at f9_0 f9_1 ⊢
    refine hr.1 7 True _ _ (103, [some (.ref 17), some (.int (zg_i D 18 1))], [], [cb, sd, ln, 1], zp_i D9 17 9 ((zg_i D9 18 1) - (zg_i D 18 1))) rfl trivial ?_
    exact hr.2.2.2 _ _ _ rfl trivial ⟨rfl, (by subst hD9; subst hD8; subst hD7; subst hD6; subst hD5; subst hD1; rw [fs_windex, if_neg h23])⟩
def fs_wend  (D : zx_D) : zx_D := (fr_app 18 19 640 90 (fr_app 18 19 640 89 (fr_all 18 19 640 (((fr_all 18 19 640 (zb_low (zc_sum4 ((zp_i (zp_i D 22 (zn 0) (((zg_i D 17 9) / 4) - 1)) 22 (zn 5) (zg_i D 17 5)).1 22) (zn 6 - zn 0) (zn 0))) 4 0 (zp_i (zp_i D 22 (zn 0) (((zg_i D 17 9) / 4) - 1)) 22 (zn 5) (zg_i D 17 5)))).1 22) 6 0 (fr_all 18 19 640 (zb_low (zc_sum4 ((zp_i (zp_i D 22 (zn 0) (((zg_i D 17 9) / 4) - 1)) 22 (zn 5) (zg_i D 17 5)).1 22) (zn 6 - zn 0) (zn 0))) 4 0 (zp_i (zp_i D 22 (zn 0) (((zg_i D 17 9) / 4) - 1)) 22 (zn 5) (zg_i D 17 5))))))
set_option maxRecDepth 100000 in
set_option maxHeartbeats 4000000 in
theorem t_wend {l : Launch} {E : zx_E} {d : Nat} {rf : List Nat}  (D : zx_D) (hd : dk D) : zx_MC l E 101 (d + 2) [.ref 17] (rf, D) (fun v S => v = none ∧ S = (rf, fs_wend D)) := by
  refine zx_ofC (K := ck_Pkg_writeEnd) rfl (by decide +kernel) rfl ok_Pkg_writeEnd (Nat.le_of_ble_eq_true rfl) (fun Zp hr => ?_)
  show Zp (0, [some (.ref 17)], [], rf, D)
  refine hr.1 24 True _ _ (38, [some (.ref 17)], [.int 6, .int 0, .ref 22, .ref 18], rf, zp_i (zp_i D 22 (zn 0) (((zg_i D 17 9) / 4) - 1)) 22 (zn 5) (zg_i D 17 5)) rfl ⟨⟨trivial, (zin (by decide) (by decide : (_ : Int32) < 6) rfl)⟩, (zin (by decide) (by decide : (_ : Int32) < 6) rfl)⟩ ?_
  refine hr.2.2.1 _ _ _ _ _ (d + 1) rfl (by omega) (t_sum4i_22 0 6 (zp_i (zp_i D 22 (zn 0) (((zg_i D 17 9) / 4) - 1)) 22 (zn 5) (zg_i D 17 5)) (by decide) (by decide) (by decide)) (fun v S hq => ?_)
  obtain ⟨rfl, rfl⟩ := hq
  refine hr.1 1 True _ _ (42, [some (.ref 17)], [.int 4, .long (zc_sum4 ((zp_i (zp_i D 22 (zn 0) (((zg_i D 17 9) / 4) - 1)) 22 (zn 5) (zg_i D 17 5)).1 22) (zn 6 - zn 0) (zn 0)), .ref 18], rf, zp_i (zp_i D 22 (zn 0) (((zg_i D 17 9) / 4) - 1)) 22 (zn 5) (zg_i D 17 5)) rfl trivial ?_
  refine hr.2.2.1 _ _ _ _ _ (d + 1) rfl (by omega) (t_low_18 (zc_sum4 ((zp_i (zp_i D 22 (zn 0) (((zg_i D 17 9) / 4) - 1)) 22 (zn 5) (zg_i D 17 5)).1 22) (zn 6 - zn 0) (zn 0)) 4 (zp_i (zp_i D 22 (zn 0) (((zg_i D 17 9) / 4) - 1)) 22 (zn 5) (zg_i D 17 5)) (show dk (zp_i (zp_i D 22 (zn 0) (((zg_i D 17 9) / 4) - 1)) 22 (zn 5) (zg_i D 17 5)) from hd).1 (by decide)) (fun v S hq => ?_)
  obtain ⟨rfl, rfl⟩ := hq
  have f1_0 : dk (fr_all 18 19 640 (zb_low (zc_sum4 ((zp_i (zp_i D 22 (zn 0) (((zg_i D 17 9) / 4) - 1)) 22 (zn 5) (zg_i D 17 5)).1 22) (zn 6 - zn 0) (zn 0))) 4 0 (zp_i (zp_i D 22 (zn 0) (((zg_i D 17 9) / 4) - 1)) 22 (zn 5) (zg_i D 17 5))) := dk_all (show dk (zp_i (zp_i D 22 (zn 0) (((zg_i D 17 9) / 4) - 1)) 22 (zn 5) (zg_i D 17 5)) from hd)
  have f1_1 : zg_i (zp_i (zp_i D 22 (zn 0) (((zg_i D 17 9) / 4) - 1)) 22 (zn 5) (zg_i D 17 5)) 18 1 ≤ zg_i (fr_all 18 19 640 (zb_low (zc_sum4 ((zp_i (zp_i D 22 (zn 0) (((zg_i D 17 9) / 4) - 1)) 22 (zn 5) (zg_i D 17 5)).1 22) (zn 6 - zn 0) (zn 0))) 4 0 (zp_i (zp_i D 22 (zn 0) (((zg_i D 17 9) / 4) - 1)) 22 (zn 5) (zg_i D 17 5))) 18 1 := mo_all (show dk (zp_i (zp_i D 22 (zn 0) (((zg_i D 17 9) / 4) - 1)) 22 (zn 5) (zg_i D 17 5)) from hd) (Int32.le_refl _)
  generalize hD1 : fr_all 18 19 640 (zb_low (zc_sum4 ((zp_i (zp_i D 22 (zn 0) (((zg_i D 17 9) / 4) - 1)) 22 (zn 5) (zg_i D 17 5)).1 22) (zn 6 - zn 0) (zn 0))) 4 0 (zp_i (zp_i D 22 (zn 0) (((zg_i D 17 9) / 4) - 1)) 22 (zn 5) (zg_i D 17 5)) = D1 at f1_0 f1_1 ⊢
  refine hr.1 8 True _ _ (59, [some (.ref 17)], [.int 6, .int 0, .ref 22, .ref 18], rf, D1) rfl trivial ?_
  refine hr.2.2.1 _ _ _ _ _ (d + 1) rfl (by omega) (t_all_18_22 0 6 D1 f1_0.1 (by decide)) (fun v S hq => ?_)
  obtain ⟨rfl, rfl⟩ := hq
  have f2_0 : dk (fr_all 18 19 640 ((D1).1 22) 6 0 D1) := dk_all f1_0
  have f2_1 : zg_i D1 18 1 ≤ zg_i (fr_all 18 19 640 ((D1).1 22) 6 0 D1) 18 1 := mo_all f1_0 (Int32.le_refl _)
  generalize hD2 : fr_all 18 19 640 ((D1).1 22) 6 0 D1 = D2 at f2_0 f2_1 ⊢
  refine hr.1 3 True _ _ (68, [some (.ref 17)], [.int 89, .ref 18], rf, D2) rfl trivial ?_
  refine hr.2.2.1 _ _ _ _ _ (d + 1) rfl (by omega) (t_app_18 89 D2 f2_0.1) (fun v S hq => ?_)
  obtain ⟨rfl, rfl⟩ := hq
  have f3_0 : dk (fr_app 18 19 640 89 D2) := dk_app f2_0
  have f3_1 : zg_i D2 18 1 ≤ zg_i (fr_app 18 19 640 89 D2) 18 1 := mo_app f2_0 (Int32.le_refl _)
  generalize hD3 : fr_app 18 19 640 89 D2 = D3 at f3_0 f3_1 ⊢
  refine hr.1 3 True _ _ (77, [some (.ref 17)], [.int 90, .ref 18], rf, D3) rfl trivial ?_
  refine hr.2.2.1 _ _ _ _ _ (d + 1) rfl (by omega) (t_app_18 90 D3 f3_0.1) (fun v S hq => ?_)
  obtain ⟨rfl, rfl⟩ := hq
  have f4_0 : dk (fr_app 18 19 640 90 D3) := dk_app f3_0
  have f4_1 : zg_i D3 18 1 ≤ zg_i (fr_app 18 19 640 90 D3) 18 1 := mo_app f3_0 (Int32.le_refl _)
  generalize hD4 : fr_app 18 19 640 90 D3 = D4 at f4_0 f4_1 ⊢
  exact hr.2.2.2 _ _ _ rfl trivial ⟨rfl, (by subst hD4; subst hD3; subst hD2; subst hD1; rw [fs_wend])⟩
