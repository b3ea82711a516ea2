/-! The reference: feed, writeZeros, writeVli -/
def fq_feed (q sl : Nat) (x : Int64) : Nat → zx_D → zx_D
  | 0, D => D
  | k + 1, D => fq_feed q sl x k (zp_i (zp_i D q (zn (zg_i D 0 sl)) (zb_r x k)) 0 sl (zg_i D 0 sl + 1))
def fv_rfeed0 (n : Int32) (D : zx_D) : Int32 := if n < 1 then -1 else if 8 < n then -1 else if zg_i D 0 1 + n ≤ 400 then zg_i D 0 1 + n else -1
def fs_rfeed0 (x : Int64) (n : Int32) (D : zx_D) : zx_D := if n < 1 then D else if 8 < n then D else if zg_i D 0 1 + n ≤ 400 then fq_feed 1 1 x (zn n) D else D
set_option maxRecDepth 100000 in
set_option maxHeartbeats 4000000 in
theorem t_rfeed0 {l : Launch} {E : zx_E} {d : Nat} (x : Int64) (n : Int32) (D : zx_D) {m : Nat} (hm : zg_i D 0 1 = nI m) (hc : m ≤ 400) : zx_MR l E 102 d [.ref 0, .long x, .int n, .int 0] ([], D) (fun v S => v = some (.int (fv_rfeed0 n D)) ∧ S = ([], fs_rfeed0 x n D)) := by
  refine zx_ofR (K := ck_R_feed) rfl (by decide +kernel) rfl ok_R_feed (Nat.le_of_ble_eq_true rfl) (fun Zp hr => ?_)
  show Zp (0, [some (.ref 0), some (.long x), none, some (.int n), some (.int 0), none, none, none], [], [], D)
  have loop : ∀ (k : Nat) (D1 : zx_D) (o7 : Option Value) (m : Nat), k ≤ 8 → zg_i D1 0 1 = nI m → m + k ≤ 400 → fq_feed 1 1 x k D1 = fq_feed 1 1 x (zn n) D → (∀ D2, D2 = fq_feed 1 1 x (zn n) D → some (Value.int (zg_i D 0 1 + n)) = some (.int (fv_rfeed0 n D)) ∧ (([], D2) : zx_S) = ([], fs_rfeed0 x n D)) → Zp (57, [some (.ref 0), some (.long x), none, some (.int n), some (.int 0), some (.int (zg_i D 0 1)), some (.int (nI k - 1)), o7], [], [], D1) := by
    intro k
    induction k with
    | zero =>
      intro D1 o7 m h8 hm hk hf ho
      refine hr.1 1 True _ _ (59, [some (.ref 0), some (.long x), none, some (.int n), some (.int 0), some (.int (zg_i D 0 1)), some (.int (nI 0 - 1)), o7], [.int (nI 0 - 1)], [], D1) rfl trivial ?_
      refine hr.2.1 _ (nI 0 - 1 < 0) _ _ rfl (fun _ => ?_) (fun h => absurd (by decide) h)
      refine hr.1 3 True _ _ (136, [some (.ref 0), some (.long x), none, some (.int n), some (.int 0), some (.int (zg_i D 0 1)), some (.int (nI 0 - 1)), o7], [.int ((zg_i D 0 1) + n)], [], D1) rfl trivial ?_
      exact hr.2.2.2 _ _ _ rfl trivial (ho D1 hf)
    | succ k ih =>
      intro D1 o7 m h8 hm hk hf ho
      refine hr.1 1 True _ _ (59, [some (.ref 0), some (.long x), none, some (.int n), some (.int 0), some (.int (zg_i D 0 1)), some (.int (nI (k + 1) - 1)), o7], [.int (nI (k + 1) - 1)], [], D1) rfl trivial ?_
      refine hr.2.1 _ (nI (k + 1) - 1 < 0) _ _ rfl (fun h => absurd h (by rw [nI_pred]; exact nI_pos (by omega))) (fun _ => ?_)
      refine hr.1 10 True _ _ (78, [some (.ref 0), some (.long x), none, some (.int n), some (.int 0), some (.int (zg_i D 0 1)), some (.int (nI (k + 1) - 1)), some (.int ((((zo_lshr x (8 * (nI (k + 1) - 1))) &&& 255)).toInt32))], [.int 0], [], D1) rfl trivial ?_
      refine hr.2.1 _ ((0 : Int32) = 0) _ _ rfl (fun _ => ?_) (fun h => absurd (by decide) h)
      refine hr.1 14 True _ _ (57, [some (.ref 0), some (.long x), none, some (.int n), some (.int 0), some (.int (zg_i D 0 1)), some (.int ((nI (k + 1) - 1) + (-1))), some (.int ((((zo_lshr x (8 * (nI (k + 1) - 1))) &&& 255)).toInt32))], [], [], zp_i (zp_i D1 1 (zn (zg_i D1 0 1)) ((((zo_lshr x (8 * (nI (k + 1) - 1))) &&& 255)).toInt32)) 0 1 ((zg_i D1 0 1) + 1)) rfl ⟨trivial, (by rw [hm]; exact vp_in_nI (by omega) (by omega))⟩ ?_
      rw [nI_pred, zi_m1]
      refine ih _ _ (m + 1) (by omega) ?_ (by omega) hf ho
      rw [zg_pi, if_pos ⟨rfl, rfl⟩, hm, nI_1]
  refine hr.1 1 True _ _ (2, [some (.ref 0), some (.long x), none, some (.int n), some (.int 0), none, none, none], [.int 0], [], D) rfl trivial ?_
  refine hr.2.1 _ ((0 : Int32) = 0) _ _ rfl (fun _ => ?_) (fun h => absurd (by decide) h)
  refine hr.1 5 True _ _ (20, [some (.ref 0), some (.long x), none, some (.int n), some (.int 0), some (.int (zg_i D 0 1)), none, none], [.int 1, .int n], [], D) rfl trivial ?_
  refine hr.2.1 _ (n < 1) _ _ rfl (fun h20 => ?_) (fun h20 => ?_)
  · skip
    refine hr.1 1 True _ _ (51, [some (.ref 0), some (.long x), none, some (.int n), some (.int 0), some (.int (zg_i D 0 1)), none, none], [.int (-1)], [], D) rfl trivial ?_
    exact hr.2.2.2 _ _ _ rfl trivial ⟨by rw [fv_rfeed0, if_pos h20], by rw [fs_rfeed0, if_pos h20]⟩
  · skip
    refine hr.1 2 True _ _ (26, [some (.ref 0), some (.long x), none, some (.int n), some (.int 0), some (.int (zg_i D 0 1)), none, none], [.int 8, .int n], [], D) rfl trivial ?_
    refine hr.2.1 _ (8 < n) _ _ rfl (fun h26 => ?_) (fun h26 => ?_)
    · skip
      refine hr.1 1 True _ _ (51, [some (.ref 0), some (.long x), none, some (.int n), some (.int 0), some (.int (zg_i D 0 1)), none, none], [.int (-1)], [], D) rfl trivial ?_
      exact hr.2.2.2 _ _ _ rfl trivial ⟨by rw [fv_rfeed0, if_neg h20, if_pos h26], by rw [fs_rfeed0, if_neg h20, if_pos h26]⟩
    · skip
      refine hr.1 4 True _ _ (35, [some (.ref 0), some (.long x), none, some (.int n), some (.int 0), some (.int (zg_i D 0 1)), none, none], [.int 0, .int ((zg_i D 0 1) + n)], [], D) rfl trivial ?_
      refine hr.2.1 _ ((0 : Int32) = 0) _ _ rfl (fun _ => ?_) (fun h => absurd (by decide) h)
      refine hr.1 1 True _ _ (47, [some (.ref 0), some (.long x), none, some (.int n), some (.int 0), some (.int (zg_i D 0 1)), none, none], [.int 400, .int ((zg_i D 0 1) + n)], [], D) rfl trivial ?_
      refine hr.2.1 _ ((zg_i D 0 1) + n ≤ 400) _ _ rfl (fun h47 => ?_) (fun h47 => ?_)
      · skip
        refine hr.1 4 True _ _ (57, [some (.ref 0), some (.long x), none, some (.int n), some (.int 0), some (.int (zg_i D 0 1)), some (.int (n - 1)), none], [], [], D) rfl trivial ?_
        obtain ⟨c, hc8, hcn⟩ : ∃ c : Nat, c ≤ 8 ∧ n = nI c := nI_of2 (M := 8) rfl (fun q => h20 (Int32.lt_trans q (by decide))) (Int32.not_lt.mp h26)
        have hz : zn n = c := by rw [hcn, zn_nI (by omega)]
        have hle : m + c ≤ 400 := by rw [hm, hcn, nI_add, show (400 : Int32) = nI 400 from rfl, nI_leI (by omega) (by omega)] at h47; exact h47
        have h57 := loop c D none m hc8 hm hle (by rw [hz]) (fun D2 h2 => ⟨by rw [fv_rfeed0, if_neg h20, if_neg h26, if_pos h47], by rw [fs_rfeed0, if_neg h20, if_neg h26, if_pos h47, h2]⟩)
        rw [← hcn] at h57
        exact h57
      · skip
        refine hr.1 1 True _ _ (51, [some (.ref 0), some (.long x), none, some (.int n), some (.int 0), some (.int (zg_i D 0 1)), none, none], [.int (-1)], [], D) rfl trivial ?_
        exact hr.2.2.2 _ _ _ rfl trivial ⟨by rw [fv_rfeed0, if_neg h20, if_neg h26, if_neg h47], by rw [fs_rfeed0, if_neg h20, if_neg h26, if_neg h47]⟩
def fv_rfeed1 (n : Int32) (D : zx_D) : Int32 := if n < 1 then -1 else if 8 < n then -1 else if zg_i D 0 3 + n ≤ 640 then zg_i D 0 3 + n else -1
def fs_rfeed1 (x : Int64) (n : Int32) (D : zx_D) : zx_D := if n < 1 then D else if 8 < n then D else if zg_i D 0 3 + n ≤ 640 then fq_feed 2 3 x (zn n) D else D
set_option maxRecDepth 100000 in
set_option maxHeartbeats 4000000 in
theorem t_rfeed1 {l : Launch} {E : zx_E} {d : Nat} (x : Int64) (n : Int32) (D : zx_D) {m : Nat} (hm : zg_i D 0 3 = nI m) (hc : m ≤ 640) : zx_MR l E 102 d [.ref 0, .long x, .int n, .int 1] ([], D) (fun v S => v = some (.int (fv_rfeed1 n D)) ∧ S = ([], fs_rfeed1 x n D)) := by
  refine zx_ofR (K := ck_R_feed) rfl (by decide +kernel) rfl ok_R_feed (Nat.le_of_ble_eq_true rfl) (fun Zp hr => ?_)
  show Zp (0, [some (.ref 0), some (.long x), none, some (.int n), some (.int 1), none, none, none], [], [], D)
  have loop : ∀ (k : Nat) (D1 : zx_D) (o7 : Option Value) (m : Nat), k ≤ 8 → zg_i D1 0 3 = nI m → m + k ≤ 640 → fq_feed 2 3 x k D1 = fq_feed 2 3 x (zn n) D → (∀ D2, D2 = fq_feed 2 3 x (zn n) D → some (Value.int (zg_i D 0 3 + n)) = some (.int (fv_rfeed1 n D)) ∧ (([], D2) : zx_S) = ([], fs_rfeed1 x n D)) → Zp (57, [some (.ref 0), some (.long x), none, some (.int n), some (.int 1), some (.int (zg_i D 0 3)), some (.int (nI k - 1)), o7], [], [], D1) := by
    intro k
    induction k with
    | zero =>
      intro D1 o7 m h8 hm hk hf ho
      refine hr.1 1 True _ _ (59, [some (.ref 0), some (.long x), none, some (.int n), some (.int 1), some (.int (zg_i D 0 3)), some (.int (nI 0 - 1)), o7], [.int (nI 0 - 1)], [], D1) rfl trivial ?_
      refine hr.2.1 _ (nI 0 - 1 < 0) _ _ rfl (fun _ => ?_) (fun h => absurd (by decide) h)
      refine hr.1 3 True _ _ (136, [some (.ref 0), some (.long x), none, some (.int n), some (.int 1), some (.int (zg_i D 0 3)), some (.int (nI 0 - 1)), o7], [.int ((zg_i D 0 3) + n)], [], D1) rfl trivial ?_
      exact hr.2.2.2 _ _ _ rfl trivial (ho D1 hf)
    | succ k ih =>
      intro D1 o7 m h8 hm hk hf ho
      refine hr.1 1 True _ _ (59, [some (.ref 0), some (.long x), none, some (.int n), some (.int 1), some (.int (zg_i D 0 3)), some (.int (nI (k + 1) - 1)), o7], [.int (nI (k + 1) - 1)], [], D1) rfl trivial ?_
      refine hr.2.1 _ (nI (k + 1) - 1 < 0) _ _ rfl (fun h => absurd h (by rw [nI_pred]; exact nI_pos (by omega))) (fun _ => ?_)
      refine hr.1 10 True _ _ (78, [some (.ref 0), some (.long x), none, some (.int n), some (.int 1), some (.int (zg_i D 0 3)), some (.int (nI (k + 1) - 1)), some (.int ((((zo_lshr x (8 * (nI (k + 1) - 1))) &&& 255)).toInt32))], [.int 1], [], D1) rfl trivial ?_
      refine hr.2.1 _ ((1 : Int32) = 0) _ _ rfl (fun h => absurd h (by decide)) (fun _ => ?_)
      refine hr.1 15 True _ _ (57, [some (.ref 0), some (.long x), none, some (.int n), some (.int 1), some (.int (zg_i D 0 3)), some (.int ((nI (k + 1) - 1) + (-1))), some (.int ((((zo_lshr x (8 * (nI (k + 1) - 1))) &&& 255)).toInt32))], [], [], zp_i (zp_i D1 2 (zn (zg_i D1 0 3)) ((((zo_lshr x (8 * (nI (k + 1) - 1))) &&& 255)).toInt32)) 0 3 ((zg_i D1 0 3) + 1)) rfl ⟨trivial, (by rw [hm]; exact vp_in_nI (by omega) (by omega))⟩ ?_
      rw [nI_pred, zi_m1]
      refine ih _ _ (m + 1) (by omega) ?_ (by omega) hf ho
      rw [zg_pi, if_pos ⟨rfl, rfl⟩, hm, nI_1]
  refine hr.1 1 True _ _ (2, [some (.ref 0), some (.long x), none, some (.int n), some (.int 1), none, none, none], [.int 1], [], D) rfl trivial ?_
  refine hr.2.1 _ ((1 : Int32) = 0) _ _ rfl (fun h => absurd h (by decide)) (fun _ => ?_)
  refine hr.1 6 True _ _ (20, [some (.ref 0), some (.long x), none, some (.int n), some (.int 1), some (.int (zg_i D 0 3)), none, none], [.int 1, .int n], [], D) rfl trivial ?_
  refine hr.2.1 _ (n < 1) _ _ rfl (fun h20 => ?_) (fun h20 => ?_)
  · skip
    refine hr.1 1 True _ _ (51, [some (.ref 0), some (.long x), none, some (.int n), some (.int 1), some (.int (zg_i D 0 3)), none, none], [.int (-1)], [], D) rfl trivial ?_
    exact hr.2.2.2 _ _ _ rfl trivial ⟨by rw [fv_rfeed1, if_pos h20], by rw [fs_rfeed1, if_pos h20]⟩
  · skip
    refine hr.1 2 True _ _ (26, [some (.ref 0), some (.long x), none, some (.int n), some (.int 1), some (.int (zg_i D 0 3)), none, none], [.int 8, .int n], [], D) rfl trivial ?_
    refine hr.2.1 _ (8 < n) _ _ rfl (fun h26 => ?_) (fun h26 => ?_)
    · skip
      refine hr.1 1 True _ _ (51, [some (.ref 0), some (.long x), none, some (.int n), some (.int 1), some (.int (zg_i D 0 3)), none, none], [.int (-1)], [], D) rfl trivial ?_
      exact hr.2.2.2 _ _ _ rfl trivial ⟨by rw [fv_rfeed1, if_neg h20, if_pos h26], by rw [fs_rfeed1, if_neg h20, if_pos h26]⟩
    · skip
      refine hr.1 4 True _ _ (35, [some (.ref 0), some (.long x), none, some (.int n), some (.int 1), some (.int (zg_i D 0 3)), none, none], [.int 1, .int ((zg_i D 0 3) + n)], [], D) rfl trivial ?_
      refine hr.2.1 _ ((1 : Int32) = 0) _ _ rfl (fun h => absurd h (by decide)) (fun _ => ?_)
      refine hr.1 2 True _ _ (47, [some (.ref 0), some (.long x), none, some (.int n), some (.int 1), some (.int (zg_i D 0 3)), none, none], [.int 640, .int ((zg_i D 0 3) + n)], [], D) rfl trivial ?_
      refine hr.2.1 _ ((zg_i D 0 3) + n ≤ 640) _ _ rfl (fun h47 => ?_) (fun h47 => ?_)
      · skip
        refine hr.1 4 True _ _ (57, [some (.ref 0), some (.long x), none, some (.int n), some (.int 1), some (.int (zg_i D 0 3)), some (.int (n - 1)), none], [], [], D) rfl trivial ?_
        obtain ⟨c, hc8, hcn⟩ : ∃ c : Nat, c ≤ 8 ∧ n = nI c := nI_of2 (M := 8) rfl (fun q => h20 (Int32.lt_trans q (by decide))) (Int32.not_lt.mp h26)
        have hz : zn n = c := by rw [hcn, zn_nI (by omega)]
        have hle : m + c ≤ 640 := by rw [hm, hcn, nI_add, show (640 : Int32) = nI 640 from rfl, nI_leI (by omega) (by omega)] at h47; exact h47
        have h57 := loop c D none m hc8 hm hle (by rw [hz]) (fun D2 h2 => ⟨by rw [fv_rfeed1, if_neg h20, if_neg h26, if_pos h47], by rw [fs_rfeed1, if_neg h20, if_neg h26, if_pos h47, h2]⟩)
        rw [← hcn] at h57
        exact h57
      · skip
        refine hr.1 1 True _ _ (51, [some (.ref 0), some (.long x), none, some (.int n), some (.int 1), some (.int (zg_i D 0 3)), none, none], [.int (-1)], [], D) rfl trivial ?_
        exact hr.2.2.2 _ _ _ rfl trivial ⟨by rw [fv_rfeed1, if_neg h20, if_neg h26, if_neg h47], by rw [fs_rfeed1, if_neg h20, if_neg h26, if_neg h47]⟩
def zw_pad (n : Nat) : Nat := (4 - n % 4) % 4
theorem zw_rem {m s : Nat} (h : s ≤ m) (hm : m < 2 ^ 20) : zo_rem (nI m - nI s) 4 = nI ((m - s) % 4) := by
  rw [pk_sub h]
  unfold zo_rem
  exact pk_rem (d := 4) (by omega) (by decide) (by decide)
set_option maxRecDepth 100000 in
set_option maxHeartbeats 4000000 in
theorem t_rwzeros {l : Launch} {E : zx_E} {d : Nat} (s : Nat) (D : zx_D) {m0 : Nat} (hm : zg_i D 0 7 = nI m0) (hs : s ≤ m0) (hb : m0 + 4 < 2 ^ 20) : zx_MR l E 175 (d + 1) [.ref 0, .int (nI s)] ([], D) (fun v S => v = none ∧ S = ([], fw_all (fun _ => 0) (zw_pad (m0 - s)) 0 D)) := by
  refine zx_ofR (K := ck_R_writeZeros) rfl (by decide +kernel) rfl ok_R_writeZeros (Nat.le_of_ble_eq_true rfl) (fun Zp hr => ?_)
  show Zp (0, [some (.ref 0), some (.int (nI s))], [], [], D)
  have loop : ∀ (k : Nat) (j m : Nat) (D1 : zx_D), zg_i D1 0 7 = nI m → s ≤ m → m + k < 2 ^ 20 → k = zw_pad (m - s) → fw_all (fun _ => 0) k j D1 = fw_all (fun _ => 0) (zw_pad (m0 - s)) 0 D → Zp (0, [some (.ref 0), some (.int (nI s))], [], [], D1) := by
    intro k
    induction k with
    | zero =>
      intro j m D1 hm hs hb hk hf
      have hf : D1 = fw_all (fun _ => 0) (zw_pad (m0 - s)) 0 D := hf
      refine hr.1 6 True _ _ (8, [some (.ref 0), some (.int (nI s))], [.int (zo_rem ((zg_i D1 0 7) - (nI s)) 4)], [], D1) rfl trivial ?_
      refine hr.2.1 _ (zo_rem ((zg_i D1 0 7) - (nI s)) 4 = 0) _ _ rfl (fun _ => ?_) (fun h => absurd (by rw [hm, zw_rem hs (by omega), show (m - s) % 4 = 0 by unfold zw_pad at hk; omega]; rfl) h)
      exact hr.2.2.2 _ _ _ rfl trivial ⟨rfl, by rw [← hf]⟩
    | succ k ih =>
      intro j m D1 hm hs hb hk hf
      refine hr.1 6 True _ _ (8, [some (.ref 0), some (.int (nI s))], [.int (zo_rem ((zg_i D1 0 7) - (nI s)) 4)], [], D1) rfl trivial ?_
      refine hr.2.1 _ (zo_rem ((zg_i D1 0 7) - (nI s)) 4 = 0) _ _ rfl (fun h => absurd h (by rw [hm, zw_rem hs (by omega)]; exact nI_ne0 (by unfold zw_pad at hk; omega) (by omega))) (fun _ => ?_)
      refine hr.1 2 True _ _ (13, [some (.ref 0), some (.int (nI s))], [.int 0, .ref 0], [], D1) rfl trivial ?_
      refine hr.2.2.1 _ _ _ _ _ d rfl (by omega) (t_rwrite 0 D1 (nI_ge0 hm (by omega))) (fun v S hq => ?_)
      obtain ⟨rfl, rfl⟩ := hq
      refine hr.1 1 True _ _ (0, [some (.ref 0), some (.int (nI s))], [], [], fs_rwrite 0 D1) rfl trivial ?_
      exact ih (j + 1) (m + 1) _ (fw_n hm) (by omega) (by omega) (by unfold zw_pad at hk ⊢; omega) hf
  exact loop (zw_pad (m0 - s)) 0 m0 D hm hs (by unfold zw_pad; omega) rfl rfl
