/-! The writer: small methods -/
theorem nI_zn {n : Int32} (h : 0 ≤ n) : nI (zn n) = n := by
  obtain ⟨j, hj, rfl⟩ := nI_of (x := n) (fun q => absurd h (Int32.not_le.mpr q))
  rw [zn_nI hj]
theorem fr_all_sz {r a : Nat} {n : Int32} {g : Nat → Int32} (hra : r ≠ a) : ∀ {k j : Nat} {D : zx_D}, 0 ≤ zg_i D r 1 → n.toInt < 2 ^ 30 → 0 ≤ zg_i (fr_all r a n g k j D) r 1
  | 0, _, _, h, _ => h
  | k + 1, j, D, h, hn => by
    have := fr_all_sz (g := g) hra (k := k) (j := j + 1) (D := fr_app r a n (g j) D) (fr_app_sz hra h hn) hn
    exact this
theorem fr_app_i {r a q j : Nat} {n b : Int32} {D : zx_D} (h1 : q ≠ r) (h2 : q ≠ a) : zg_i (fr_app r a n b D) q j = zg_i D q j := congrFun (fr_app_1 h1 h2) j
theorem fr_all_i {r a q : Nat} {n : Int32} {g : Nat → Int32} (h1 : q ≠ r) (h2 : q ≠ a) : ∀ {k j i : Nat} {D : zx_D}, zg_i (fr_all r a n g k j D) q i = zg_i D q i
  | 0, _, _, _ => rfl
  | k + 1, j, i, D => by
    have := fr_all_i (n := n) (g := g) h1 h2 (k := k) (j := j + 1) (i := i) (D := fr_app r a n (g j) D)
    rw [fr_app_i h1 h2] at this
    exact this
theorem fr_all_2 {r a : Nat} {n : Int32} {g : Nat → Int32} : ∀ {k j : Nat} {D : zx_D}, (fr_all r a n g k j D).2 = D.2
  | 0, _, _ => rfl
  | k + 1, j, D => by
    have := fr_all_2 (r := r) (a := a) (n := n) (g := g) (k := k) (j := j + 1) (D := fr_app r a n (g j) D)
    rw [fr_app_2] at this
    exact this
/-- the size of a row behind an append, while there is room -/
theorem fr_app_n {r a : Nat} {n b : Int32} {D : zx_D} {m : Nat} (hr : zg_i D r 1 = nI m) (hm : nI m < n) : zg_i (fr_app r a n b D) r 1 = nI (m + 1) := by
  unfold fr_app
  rw [hr, if_pos hm, zg_pi, if_pos ⟨rfl, rfl⟩, nI_1]
theorem fr_app_o {r a : Nat} {n b : Int32} {D : zx_D} {m : Nat} (hra : r ≠ a) (hr : zg_i D r 1 = nI m) (hm : nI m < n) : zg_i (fr_app r a n b D) r 2 = zg_i D r 2 := by
  unfold fr_app
  rw [hr, if_pos hm, zg_pi, if_neg (by omega), zg_pi, if_neg (fun e => hra e.1)]
theorem fr_all_n {r a N : Nat} {n : Int32} {g : Nat → Int32} (hra : r ≠ a) (hn : n = nI N) (hN : N < 2 ^ 30) : ∀ {k j m : Nat} {D : zx_D}, zg_i D r 1 = nI m → m + k ≤ N → zg_i (fr_all r a n g k j D) r 1 = nI (m + k) ∧ zg_i (fr_all r a n g k j D) r 2 = zg_i D r 2
  | 0, _, _, _, h, _ => ⟨h, rfl⟩
  | k + 1, j, m, D, h, hk => by
    have hm : nI m < n := by rw [hn, nI_ltI (by omega) (by omega)]; omega
    have := fr_all_n (g := g) hra hn hN (k := k) (j := j + 1) (fr_app_n (a := a) (b := g j) h hm) (by omega)
    rw [fr_app_o hra h hm] at this
    rw [show m + (k + 1) = m + 1 + k by omega]
    exact this
def fs_two (n : Int32) (D : zx_D) : zx_D := fr_app 18 19 640 (n &&& 255) (fr_app 18 19 640 (zo_ushr n 8) D)
set_option maxRecDepth 100000 in
set_option maxHeartbeats 4000000 in
theorem t_two {l : Launch} {E : zx_E} {d : Nat} {rf : List Nat} (n : Int32) (D : zx_D) (h0 : 0 ≤ zg_i D 18 1) : zx_MC l E 91 (d + 1) [.ref 17, .int n] (rf, D) (fun v S => v = none ∧ S = (rf, fs_two n D)) := by
  refine zx_ofC (K := ck_Pkg_appendTwo) rfl (by decide +kernel) rfl ok_Pkg_appendTwo (Nat.le_of_ble_eq_true rfl) (fun Zp hr => ?_)
  show Zp (0, [some (.ref 17), some (.int n)], [], rf, D)
  refine hr.1 5 True _ _ (8, [some (.ref 17), some (.int n)], [.int (zo_ushr n 8), .ref 18], rf, D) rfl trivial ?_
  refine hr.2.2.1 _ _ _ _ _ d rfl (by omega) (t_app_18 (zo_ushr n 8) D h0) (fun v S hq => ?_)
  obtain ⟨rfl, rfl⟩ := hq
  refine hr.1 5 True _ _ (20, [some (.ref 17), some (.int n)], [.int (n &&& 255), .ref 18], rf, fr_app 18 19 640 (zo_ushr n 8) D) rfl trivial ?_
  refine hr.2.2.1 _ _ _ _ _ d rfl (by omega) (t_app_18 (n &&& 255) (fr_app 18 19 640 (zo_ushr n 8) D) (fr_app_sz (by decide) h0 (by decide))) (fun v S hq => ?_)
  obtain ⟨rfl, rfl⟩ := hq
  exact hr.2.2.2 _ _ _ rfl trivial ⟨rfl, (by rw [fs_two])⟩
theorem fs_two_sz {n : Int32} {D : zx_D} (h0 : 0 ≤ zg_i D 18 1) : 0 ≤ zg_i (fs_two n D) 18 1 := fr_app_sz (by decide) (fr_app_sz (by decide) h0 (by decide)) (by decide)
def fr_fill (s : Int32) : Nat → zx_D → zx_D
  | 0, D => D
  | k + 1, D => if zo_rem (zg_i D 18 1 - s) 4 = 0 then D else fr_fill s k (fr_app 18 19 640 0 D)
theorem fr_fill_sz {s : Int32} : ∀ {k : Nat} {D : zx_D}, 0 ≤ zg_i D 18 1 → 0 ≤ zg_i (fr_fill s k D) 18 1
  | 0, _, h => h
  | k + 1, D, h => by
    unfold fr_fill
    split
    · exact h
    · exact fr_fill_sz (fr_app_sz (by decide) h (by decide))
set_option maxRecDepth 100000 in
set_option maxHeartbeats 4000000 in
theorem t_fill {l : Launch} {E : zx_E} {d : Nat} {rf : List Nat} (s : Int32) (D : zx_D) (h0 : 0 ≤ zg_i D 18 1) : zx_MC l E 98 (d + 1) [.ref 17, .int s] (rf, D) (fun v S => v = none ∧ S = (rf, fr_fill s 3 D)) := by
  refine zx_ofC (K := ck_Pkg_fillUp) rfl (by decide +kernel) rfl ok_Pkg_fillUp (Nat.le_of_ble_eq_true rfl) (fun Zp hr => ?_)
  show Zp (0, [some (.ref 17), some (.int s), none], [], rf, D)
  have loop : ∀ (k : Nat) (D1 : zx_D), k ≤ 3 → 0 ≤ zg_i D1 18 1 → fr_fill s k D1 = fr_fill s 3 D → Zp (2, [some (.ref 17), some (.int s), some (.int (nI (3 - k)))], [], rf, D1) := by
    intro k
    induction k with
    | zero =>
      intro D1 h3 h0 hf
      refine hr.1 2 True _ _ (4, [some (.ref 17), some (.int s), some (.int (nI (3 - 0)))], [.int 3, .int (nI (3 - 0))], rf, D1) rfl trivial ?_
      refine hr.2.1 _ (3 ≤ nI (3 - 0)) _ _ rfl (fun _ => ?_) (fun h => absurd (by decide) h)
      exact hr.2.2.2 _ _ _ rfl trivial ⟨rfl, by rw [← hf]; rfl⟩
    | succ k ih =>
      intro D1 h3 h0 hf
      refine hr.1 2 True _ _ (4, [some (.ref 17), some (.int s), some (.int (nI (3 - (k + 1))))], [.int 3, .int (nI (3 - (k + 1)))], rf, D1) rfl trivial ?_
      refine hr.2.1 _ (3 ≤ nI (3 - (k + 1))) _ _ rfl (fun h => absurd h (by rw [show (3 : Int32) = nI 3 from rfl, nI_leI (by omega) (by omega)]; omega)) (fun _ => ?_)
      refine hr.1 7 True _ _ (18, [some (.ref 17), some (.int s), some (.int (nI (3 - (k + 1))))], [.int (zo_rem ((zg_i D1 18 1) - s) 4)], rf, D1) rfl trivial ?_
      refine hr.2.1 _ (zo_rem ((zg_i D1 18 1) - s) 4 = 0) _ _ rfl (fun h18 => ?_) (fun h18 => ?_)
      · skip
        exact hr.2.2.2 _ _ _ rfl trivial ⟨rfl, by rw [← hf, fr_fill, if_pos h18]⟩
      · skip
        refine hr.1 3 True _ _ (26, [some (.ref 17), some (.int s), some (.int (nI (3 - (k + 1))))], [.int 0, .ref 18], rf, D1) rfl trivial ?_
        refine hr.2.2.1 _ _ _ _ _ d rfl (by omega) (t_app_18 0 D1 h0) (fun v S hq => ?_)
        obtain ⟨rfl, rfl⟩ := hq
        refine hr.1 2 True _ _ (2, [some (.ref 17), some (.int s), some (.int ((nI (3 - (k + 1))) + 1))], [], rf, fr_app 18 19 640 0 D1) rfl trivial ?_
        rw [nI_1, show 3 - (k + 1) + 1 = 3 - k by omega]
        exact ih _ (by omega) (fr_app_sz (by decide) h0 (by decide)) (by rw [fr_fill, if_neg h18] at hf; exact hf)
  refine hr.1 2 True _ _ (2, [some (.ref 17), some (.int s), some (.int 0)], [], rf, D) rfl trivial ?_
  exact loop 3 D (by omega) h0 rfl
