def zal (f : Nat → Int32) (P d : Nat) : Nat → Nat → Nat
  | 0, i => i
  | j + 1, i => if f (P + i) = f (P + i - d) then zal f P d j (i + 1) else i
theorem zal_le (f : Nat → Int32) (P d : Nat) : ∀ (j i : Nat), i ≤ zal f P d j i ∧ zal f P d j i ≤ i + j
  | 0, i => ⟨Nat.le_refl _, Nat.le_refl _⟩
  | j + 1, i => by
    unfold zal
    split
    · have := zal_le f P d j (i + 1)
      omega
    · omega
def za (f : Nat → Int32) (P F d : Nat) : Nat := if d ≤ P then zal f P d F 0 else 0
theorem za_le (f : Nat → Int32) (P F d : Nat) : za f P F d ≤ F := by
  unfold za
  split
  · have := zal_le f P d F 0
    omega
  · omega
theorem c_same {n P F d : Nat} {D R : zx_D} (hB : ∀ i, i < n → zg_i D 2 i = zg_i R 1 i ∧ y_B (zg_i R 1 i)) (hn : n ≤ 400) (hPF : P + F ≤ n) (hdP : d ≤ P) : ∀ (j k i : Nat), i + j = F → j < k → g_Pkg_sameBytes_21 (nI P) (nI F) (nI (P - d)) D k (nI i) (nI i) = some (nI (zal (fun q => zg_i R 1 q) P d j i))
  | 0, k + 1, i, hi, _ => by
    rw [g_Pkg_sameBytes_21, if_pos ((y_le (by omega) (by omega)).mpr (by omega))]
    rfl
  | j + 1, k + 1, i, hi, hk => by
    rw [g_Pkg_sameBytes_21, if_neg (fun q => by have := (y_le (by omega) (by omega)).mp q; omega), y_add, y_add, if_pos (y_in (by omega) (by omega)), if_pos (y_in (by omega) (by omega)), y_zn (by omega), y_zn (by omega), (hB (P - d + i) (by omega)).1, (hB (P + i) (by omega)).1]
    unfold zal
    rw [show P + i - d = P - d + i by omega]
    by_cases t : zg_i R 1 (P + i) = zg_i R 1 (P - d + i)
    · rw [if_neg (fun q => q t.symm), if_pos t, y_1]
      exact c_same hB hn hPF hdP j k (i + 1) (by omega) (by omega)
    · rw [if_pos (fun q => t q.symm), if_neg t]
theorem r_same {n P F d : Nat} {R : zx_D} (hn : n ≤ 400) (hPF : P + F ≤ n) (hdP : d ≤ P) : ∀ (j k i : Nat), i + j = F → j < k → g_R_alike_3 (nI P) (nL d) (nI F) R k (nI i) = some (nI (zal (fun q => zg_i R 1 q) P d j i))
  | 0, k + 1, i, hi, _ => by
    rw [g_R_alike_3, v_of (by omega), if_neg (fun q => by have := (v_lt (by omega) (by omega)).mp q; omega), if_pos ((y_le (by omega) (by omega)).mpr (by omega))]
    rfl
  | j + 1, k + 1, i, hi, hk => by
    rw [g_R_alike_3, v_of (by omega), if_neg (fun q => by have := (v_lt (by omega) (by omega)).mp q; omega), if_neg (fun q => by have := (y_le (by omega) (by omega)).mp q; omega), y_add, v_to, y_sub (by omega), if_pos (y_in (by omega) (by omega)), if_pos (y_in (by omega) (by omega)), y_zn (by omega), y_zn (by omega)]
    unfold zal
    by_cases t : zg_i R 1 (P + i) = zg_i R 1 (P + i - d)
    · rw [if_neg (fun q => q t), if_pos t, y_1]
      exact r_same hn hPF hdP j k (i + 1) (by omega) (by omega)
    · rw [if_pos t, if_neg t]
theorem s_same {n P F d : Nat} {D R : zx_D} (hB : ∀ i, i < n → zg_i D 2 i = zg_i R 1 i ∧ y_B (zg_i R 1 i)) (hn : n ≤ 400) (hPF : P + F ≤ n) (hd : d < 2 ^ 34) : g_Pkg_sameBytes (nI P) (nL d) (nI F) D = some (nI (za (fun q => zg_i R 1 q) P F d)) ∧ g_R_alike (nI P) (nL d) (nI F) R = some (nI (za (fun q => zg_i R 1 q) P F d)) := by
  unfold za
  by_cases t : d ≤ P
  · have c := c_same (D := D) (R := R) hB hn hPF t F 10000 0 (by omega) (by omega)
    have r := r_same (R := R) hn hPF t F 10000 0 (by omega) (by omega)
    have c : g_Pkg_sameBytes_21 (nI P) (nI F) (nI (P - d)) D 10000 0 0 = _ := c
    have r : g_R_alike_3 (nI P) (nL d) (nI F) R 10000 0 = _ := r
    rw [if_pos t, g_Pkg_sameBytes, g_R_alike, v_of (by omega), if_pos ((v_le (by omega) (by omega)).mpr t), v_to, y_sub t, c, r, o_sb]
    exact ⟨rfl, rfl⟩
  · have l : nL P < nL d := (v_lt (by omega) (by omega)).mpr (by omega)
    rw [if_neg t, g_Pkg_sameBytes, g_R_alike, v_of (by omega), if_neg (fun q => t ((v_le (by omega) (by omega)).mp q)), g_R_alike_3, v_of (by omega), if_pos l, o_sb]
    exact ⟨rfl, rfl⟩
abbrev zSr (D D' : zx_D) : Prop := Nonempty ((∀ p k, ¬ (p = 17 ∧ 13 ≤ k) → zg_i D' p k = zg_i D p k) ∧ (∀ p k, zg_l D' p k = zg_l D p k))
theorem zSr.c {D D' : zx_D} (h : zSr D D') : ∀ p k, ¬ (p = 17 ∧ 13 ≤ k) → zg_i D' p k = zg_i D p k := h.elim fun q => q.1
theorem zSr.l {D D' : zx_D} (h : zSr D D') : ∀ p k, zg_l D' p k = zg_l D p k := h.elim fun q => q.2
theorem zSr_rfl {D : zx_D} : zSr D D := ⟨fun _ _ _ => Eq.refl _, fun _ _ => Eq.refl _⟩
theorem zSr.trans {D D' D'' : zx_D} (h1 : zSr D D') (h2 : zSr D' D'') : zSr D D'' := ⟨fun p k a => (h2.c p k a).trans (h1.c p k a), fun p k => (h2.l p k).trans (h1.l p k)⟩
theorem r_mstop {n P F : Nat} {D R : zx_D} (hB : ∀ i, i < n → zg_i D 2 i = zg_i R 1 i ∧ y_B (zg_i R 1 i)) (hn : n ≤ 400) (hPF : P + F ≤ n) {most : Nat} (hm : F ≤ most) (hm4 : most ≤ 400) (dd : Int32) : ∀ (j k x : Nat), x + j = P + 1 → j < k → g_R_putToken_24 (nI P) (nI F) R k (nI most) dd (nI x) = some (nI most, dd)
  | 0, k + 1, x, hx, _ => by
    rw [g_R_putToken_24, if_pos ((y_lt (by omega) (by omega)).mpr (by omega))]
  | j + 1, k + 1, x, hx, hk => by
    have hz := za_le (fun q => zg_i R 1 q) P F x
    rw [g_R_putToken_24, if_neg (fun q => by have := (y_lt (by omega) (by omega)).mp q; omega), v_of (by omega), (s_same (d := x) hB hn hPF (by omega)).2, o_sb, if_pos ((y_le (by omega) (by omega)).mpr (by omega)), y_1]
    exact r_mstop hB hn hPF hm hm4 dd j k (x + 1) (by omega) (by omega)
theorem s_match {n P F : Nat} {R : zx_D} (hn : n ≤ 400) (hPF : P + F ≤ n) : ∀ (j k1 k2 x most dd : Nat) (D : zx_D), x + j = P + 1 → 1 ≤ x → j < k1 → j < k2 → (∀ i, i < n → zg_i D 2 i = zg_i R 1 i ∧ y_B (zg_i R 1 i)) → zg_i D 17 13 = nI most → most ≤ F → (1 ≤ most → zg_i D 17 14 = nI dd ∧ 1 ≤ dd ∧ dd ≤ P) →
    ∃ D' most' dd', g_Pkg_searchMatch_7 (nI P) (nI F) k1 (nI x) D = some D' ∧ g_R_putToken_24 (nI P) (nI F) R k2 (nI most) (nI dd) (nI x) = some (nI most', nI dd') ∧ zg_i D' 17 13 = nI most' ∧ most' ≤ F ∧ (1 ≤ most' → zg_i D' 17 14 = nI dd' ∧ 1 ≤ dd' ∧ dd' ≤ P) ∧ zSr D D'
  | 0, k1 + 1, k2 + 1, x, most, dd, D, hx, hx1, _, _, hB, hm, hmF, hdd => by
    have l : nI P < nI x := (y_lt (by omega) (by omega)).mpr (by omega)
    exact ⟨D, most, dd, by rw [g_Pkg_searchMatch_7, if_pos l], by rw [g_R_putToken_24, if_pos l], hm, hmF, hdd, zSr_rfl⟩
  | j + 1, k1 + 1, k2 + 1, x, most, dd, D, hx, hx1, h1, h2, hB, hm, hmF, hdd => by
    have l : ¬ nI P < nI x := fun q => by have := (y_lt (by omega) (by omega)).mp q; omega
    by_cases t : F ≤ most
    · refine ⟨D, most, dd, ?_, r_mstop hB hn hPF t (by omega) (nI dd) (j + 1) (k2 + 1) x hx (by omega), hm, hmF, hdd, zSr_rfl⟩
      rw [g_Pkg_searchMatch_7, if_neg l, hm, if_pos ((y_le (by omega) (by omega)).mpr t)]
    · obtain ⟨s1, s2⟩ := s_same (d := x) hB hn hPF (by omega)
      have hz := za_le (fun q => zg_i R 1 q) P F x
      obtain ⟨w, hw⟩ : ∃ w, w = za (fun q => zg_i R 1 q) P F x := ⟨_, rfl⟩
      rw [← hw] at s1 s2 hz
      rw [g_Pkg_searchMatch_7, g_R_putToken_24, if_neg l, if_neg l, hm, if_neg (fun q => t ((y_le (by omega) (by omega)).mp q)), v_of (by omega), s1, s2, o_sb, o_sb]
      by_cases u : w ≤ most
      · have l2 : nI w ≤ nI most := (y_le (by omega) (by omega)).mpr u
        rw [if_pos l2, if_pos l2, y_1]
        exact s_match hn hPF j k1 k2 (x + 1) most dd D (by omega) (by omega) (by omega) (by omega) hB hm hmF hdd
      · have l2 : ¬ nI w ≤ nI most := fun q => u ((y_le (by omega) (by omega)).mp q)
        rw [if_neg l2, if_neg l2, y_1]
        obtain ⟨D', m', d', a1, a2, a3, a4, a5, a6⟩ := s_match hn hPF j k1 k2 (x + 1) w x (zp_i (zp_i D 17 13 (nI w)) 17 14 (nI x)) (by omega) (by omega) (by omega) (by omega) hB rfl hz (fun _ => ⟨rfl, hx1, by omega⟩)
        have q0 : zSr D (zp_i (zp_i D 17 13 (nI w)) 17 14 (nI x)) := ⟨fun p k hp => by rw [y_gi, if_neg (by omega), y_gi, if_neg (by omega)], fun _ _ => rfl⟩
        exact ⟨D', m', d', a1, a2, a3, a4, a5, q0.trans a6⟩
theorem s_dist4 {D R : zx_D} (S : zDs D R) : ∃ dd : Nat → Nat, (∀ k, k ≤ 3 → 1 ≤ dd k ∧ dd k < 2 ^ 34 ∧ zg_l D 8 k = nL (dd k) ∧ zg_l R 0 (13 + k) = nL (dd k)) := by
  obtain ⟨⟨p0, p01, p02, p03, p04⟩, ⟨p1, p11, p12, p13, p14⟩, ⟨p2, p21, p22, p23, p24⟩, ⟨p3, p31, p32, p33, p34⟩⟩ := S
  refine ⟨fun k => if k = 0 then p0 else if k = 1 then p1 else if k = 2 then p2 else p3, fun k hk => ?_⟩
  have hk' : k = 0 ∨ k = 1 ∨ k = 2 ∨ k = 3 := by omega
  rcases hk' with rfl | rfl | rfl | rfl
  · exact ⟨p01, p02, p03, p04⟩
  · exact ⟨p11, p12, p13, p14⟩
  · exact ⟨p21, p22, p23, p24⟩
  · exact ⟨p31, p32, p33, p34⟩
theorem r_distOf {R : zx_D} {k : Nat} (hk : k ≤ 3) : g_R_distanceOf (nI k) R = some (zg_l R 0 (13 + k)) := by
  have hk' : k = 0 ∨ k = 1 ∨ k = 2 ∨ k = 3 := by omega
  rcases hk' with rfl | rfl | rfl | rfl <;> rfl
theorem c_distOf {D : zx_D} {k : Nat} (hk : k ≤ 3) : g_Mdl_distanceOf (nI k) D = some (zg_l D 8 k) := by
  rw [g_Mdl_distanceOf, if_pos (y_in (by omega) (by omega)), y_zn (by omega)]
theorem s_again {n P F : Nat} {R : zx_D} {dd : Nat → Nat} (x4 x5 : Int32) (hn : n ≤ 400) (hPF : P + F ≤ n) (hR : ∀ k, k ≤ 3 → 1 ≤ dd k ∧ dd k < 2 ^ 34 ∧ zg_l R 0 (13 + k) = nL (dd k)) : ∀ (j k1 k2 x ag : Nat) (D : zx_D), x + j = 4 → ag < x → j < k1 → j < k2 → (∀ i, i < n → zg_i D 2 i = zg_i R 1 i ∧ y_B (zg_i R 1 i)) → (∀ k, k ≤ 3 → zg_l D 8 k = nL (dd k)) → zg_i D 17 15 = nI (za (fun q => zg_i R 1 q) P F (dd ag)) → zg_i D 17 16 = nI ag →
    ∃ D' ag', ag' ≤ 3 ∧ g_Pkg_searchAgain_12 (nI P) (nI F) k1 (nI x) D = some D' ∧ g_R_putToken_85 (nI P) (nI F) x4 x5 R k2 (nI ag) (nI x) = some (nI ag') ∧ zg_i D' 17 15 = nI (za (fun q => zg_i R 1 q) P F (dd ag')) ∧ zg_i D' 17 16 = nI ag' ∧ zg_i D' 17 13 = zg_i D 17 13 ∧ zg_i D' 17 14 = zg_i D 17 14 ∧ zSr D D'
  | 0, k1 + 1, k2 + 1, x, ag, D, hx, hag, _, _, hB, hC, h15, h16 => by
    have l : (4 : Int32) ≤ nI x := (y_le (a := 4) (by omega) (by omega)).mpr (by omega)
    exact ⟨D, ag, by omega, by rw [g_Pkg_searchAgain_12, if_pos l], by rw [g_R_putToken_85, if_pos l], h15, h16, rfl, rfl, zSr_rfl⟩
  | j + 1, k1 + 1, k2 + 1, x, ag, D, hx, hag, h1, h2, hB, hC, h15, h16 => by
    have l : ¬ (4 : Int32) ≤ nI x := fun q => by have := (y_le (a := 4) (by omega) (by omega)).mp q; omega
    obtain ⟨s1, s2⟩ := s_same (d := dd x) hB hn hPF (hR x (by omega)).2.1
    obtain ⟨_, s3⟩ := s_same (d := dd ag) hB hn hPF (hR ag (by omega)).2.1
    have hz1 := za_le (fun q => zg_i R 1 q) P F (dd x)
    have hz2 := za_le (fun q => zg_i R 1 q) P F (dd ag)
    rw [g_Pkg_searchAgain_12, g_R_putToken_85, if_neg l, if_neg l, c_distOf (by omega), o_sb, hC x (by omega), s1, o_sb, r_distOf (by omega), o_sb, (hR x (by omega)).2.2, s2, o_sb, r_distOf (by omega), o_sb, (hR ag (by omega)).2.2, s3, o_sb, h15]
    by_cases u : nI (za (fun q => zg_i R 1 q) P F (dd x)) ≤ nI (za (fun q => zg_i R 1 q) P F (dd ag))
    · rw [if_pos u, if_pos u, y_1]
      exact s_again x4 x5 hn hPF hR j k1 k2 (x + 1) ag D (by omega) (by omega) (by omega) (by omega) hB hC h15 h16
    · rw [if_neg u, if_neg u, y_1]
      obtain ⟨D', ag', a0, a1, a2, a3, a4, a5, a6, a7⟩ := s_again x4 x5 hn hPF hR j k1 k2 (x + 1) x (zp_i (zp_i D 17 15 (nI (za (fun q => zg_i R 1 q) P F (dd x)))) 17 16 (nI x)) (by omega) (by omega) (by omega) (by omega) hB hC rfl rfl
      have q0 : zSr D (zp_i (zp_i D 17 15 (nI (za (fun q => zg_i R 1 q) P F (dd x)))) 17 16 (nI x)) := ⟨fun p k hp => by rw [y_gi, if_neg (by omega), y_gi, if_neg (by omega)], fun _ _ => rfl⟩
      exact ⟨D', ag', a0, a1, a2, a3, a4, a5.trans rfl, a6.trans rfl, q0.trans a7⟩
theorem s_search {n P F : Nat} {D R : zx_D} {dd : Nat → Nat} (hn : n ≤ 400) (hPF : P + F ≤ n) (hB : ∀ i, i < n → zg_i D 2 i = zg_i R 1 i ∧ y_B (zg_i R 1 i)) (hD : ∀ k, k ≤ 3 → 1 ≤ dd k ∧ dd k < 2 ^ 34 ∧ zg_l D 8 k = nL (dd k) ∧ zg_l R 0 (13 + k) = nL (dd k)) :
    ∃ D2 most dst ag, g_Pkg_searchMatch (nI P) (nI F) D = some D2 ∧ g_R_putToken_24 (nI P) (nI F) R 10000 0 0 1 = some (nI most, nI dst) ∧ most ≤ F ∧ (1 ≤ most → 1 ≤ dst ∧ dst ≤ P) ∧ ag ≤ 3 ∧
      (∃ D3, g_Pkg_searchAgain (nI P) (nI F) D2 = some D3 ∧ g_R_putToken_85 (nI P) (nI F) (nI most) (nI dst) R 10000 0 1 = some (nI ag) ∧ zg_i D3 17 13 = nI most ∧ (1 ≤ most → zg_i D3 17 14 = nI dst) ∧ zg_i D3 17 15 = nI (za (fun q => zg_i R 1 q) P F (dd ag)) ∧ zg_i D3 17 16 = nI ag ∧ zSr D D3) := by
  obtain ⟨D2, most, dst, a1, a2, a3, a4, a5, a6⟩ := s_match (R := R) hn hPF P 10000 10000 1 0 0 (zp_i D 17 13 0) (by omega) (by omega) (by omega) (by omega) hB rfl (by omega) (fun q => by omega)
  have a1 : g_Pkg_searchMatch_7 (nI P) (nI F) 10000 1 (zp_i D 17 13 0) = some D2 := a1
  have q0 : zSr D (zp_i D 17 13 0) := ⟨fun p k hp => by rw [y_gi, if_neg (by omega)], fun _ _ => rfl⟩
  have q2 := q0.trans a6
  have hB2 : ∀ i, i < n → zg_i D2 2 i = zg_i R 1 i ∧ y_B (zg_i R 1 i) := fun i hi => by rw [q2.c 2 i (by omega)]; exact hB i hi
  have hD2 : ∀ k, k ≤ 3 → zg_l D2 8 k = nL (dd k) := fun k hk => (q2.l 8 k).trans (hD k hk).2.2.1
  obtain ⟨s1, s2⟩ := s_same (D := zp_i (zp_i D2 17 16 0) 17 15 0) (R := R) (d := dd 0) hB2 hn hPF (hD 0 (by omega)).2.1
  have hz1 := za_le (fun q => zg_i R 1 q) P F (dd 0)
  obtain ⟨E, hE1, hE2, hE3, hE4, hE5, hE6⟩ : ∃ E, (∀ k, g_Pkg_searchAgain_12 (nI P) (nI F) (k + 1) 0 (zp_i (zp_i D2 17 16 0) 17 15 0) = g_Pkg_searchAgain_12 (nI P) (nI F) k (nI 1) E) ∧ zg_i E 17 15 = nI (za (fun q => zg_i R 1 q) P F (dd 0)) ∧ zg_i E 17 16 = nI 0 ∧ zg_i E 17 13 = zg_i D2 17 13 ∧ zg_i E 17 14 = zg_i D2 17 14 ∧ zSr D2 E := by
    have d0 : g_Mdl_distanceOf 0 (zp_i (zp_i D2 17 16 0) 17 15 0) = some (nL (dd 0)) := by
      have := c_distOf (D := zp_i (zp_i D2 17 16 0) 17 15 0) (k := 0) (by omega)
      have e : zg_l (zp_i (zp_i D2 17 16 0) 17 15 0) 8 0 = nL (dd 0) := hD2 0 (by omega)
      rw [e] at this
      exact this
    have l : ¬ (4 : Int32) ≤ 0 := by decide
    have g15 : zg_i (zp_i (zp_i D2 17 16 0) 17 15 0) 17 15 = nI 0 := rfl
    by_cases t : za (fun q => zg_i R 1 q) P F (dd 0) = 0
    · refine ⟨zp_i (zp_i D2 17 16 0) 17 15 0, fun k => ?_, by rw [t]; rfl, rfl, rfl, rfl, ⟨fun p k hp => by rw [y_gi, if_neg (by omega), y_gi, if_neg (by omega)], fun _ _ => rfl⟩⟩
      rw [g_Pkg_searchAgain_12, if_neg l, d0, o_sb, s1, o_sb, g15, if_pos ((y_le (by omega) (by omega)).mpr (by omega))]
      rfl
    · refine ⟨zp_i (zp_i (zp_i (zp_i D2 17 16 0) 17 15 0) 17 15 (nI (za (fun q => zg_i R 1 q) P F (dd 0)))) 17 16 0, fun k => ?_, rfl, rfl, rfl, rfl, ⟨fun p k hp => by rw [y_gi, if_neg (by omega), y_gi, if_neg (by omega), y_gi, if_neg (by omega), y_gi, if_neg (by omega)], fun _ _ => rfl⟩⟩
      rw [g_Pkg_searchAgain_12, if_neg l, d0, o_sb, s1, o_sb, g15, if_neg (fun q => by have := (y_le (by omega) (by omega)).mp q; omega)]
      rfl
  have hBE : ∀ i, i < n → zg_i E 2 i = zg_i R 1 i ∧ y_B (zg_i R 1 i) := fun i hi => by rw [hE6.c 2 i (by omega)]; exact hB2 i hi
  obtain ⟨D3, ag, b0, b1, b2, b3, b4, b5, b6, b7⟩ := s_again (R := R) (dd := dd) (nI most) (nI dst) hn hPF (fun k hk => ⟨(hD k hk).1, (hD k hk).2.1, (hD k hk).2.2.2⟩) 3 9999 10000 1 0 E (by omega) (by omega) (by omega) (by omega) hBE (fun k hk => (hE6.l 8 k).trans (hD2 k hk)) hE2 hE3
  refine ⟨D2, most, dst, ag, by rw [g_Pkg_searchMatch, a1, o_sb], a2, a4, fun q => (a5 q).2, b0, D3, ?_, b2, b5.trans (hE4.trans a3), fun q => b6.trans (hE5.trans (a5 q).1), b3, b4, q2.trans (hE6.trans b7)⟩
  rw [g_Pkg_searchAgain, show (10000 : Nat) = 9999 + 1 from rfl, hE1 9999, b1, o_sb]
