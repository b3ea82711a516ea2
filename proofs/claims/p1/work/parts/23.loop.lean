/-! The law's loop, and its start -/
/-- what the two worlds' feed must do -/
def zj_feed (l : Launch) (E1 E2 : zx_E) (xs : Nat → Int32) (t : Nat) (K : zx_S → zx_S → Prop) (S1 S2 : zx_S) : Prop := ∃ (r : Int32) (S1' S2' : zx_S), zx_MC l E1 0 9 [.ref 0, .long ((zo_lshl ((xs (t + 1))).toInt64 32) ||| (((xs (t + 2))).toInt64 &&& 4294967295)), .int (xs (t + 3)), .int (if (xs (t + 4)) = 0 then 0 else 1)] S1 (fun v S => v = some (.int r) ∧ S = S1') ∧ zx_MR l E2 102 9 [.ref 0, .long ((zo_lshl ((xs (t + 1))).toInt64 32) ||| (((xs (t + 2))).toInt64 &&& 4294967295)), .int (xs (t + 3)), .int (if (xs (t + 4)) = 0 then 0 else 1)] S2 (fun v S => v = some (.int r) ∧ S = S2') ∧ K S1' S2'
/-- what the two worlds' copy must do -/
def zj_copy (l : Launch) (E1 E2 : zx_E) (xs : Nat → Int32) (t : Nat) (K : zx_S → zx_S → Prop) (S1 S2 : zx_S) : Prop := ∃ (r : Int32) (S1' S2' : zx_S), zx_MC l E1 1 9 [.ref 0, .int (xs (t + 1)), .int (xs (t + 2))] S1 (fun v S => v = some (.int r) ∧ S = S1') ∧ zx_MR l E2 103 9 [.ref 0, .int (xs (t + 1)), .int (xs (t + 2))] S2 (fun v S => v = some (.int r) ∧ S = S2') ∧ K S1' S2'
/-- what the two worlds' cut must do -/
def zj_cut (l : Launch) (E1 E2 : zx_E) (xs : Nat → Int32) (t : Nat) (K : zx_S → zx_S → Prop) (S1 S2 : zx_S) : Prop := ∃ (r : Int32) (S1' S2' : zx_S), zx_MC l E1 2 9 [.ref 0, .int (xs (t + 1)), .int (if (xs (t + 2)) = 0 then 0 else 1)] S1 (fun v S => v = some (.int r) ∧ S = S1') ∧ zx_MR l E2 104 9 [.ref 0, .int (xs (t + 1)), .int (if (xs (t + 2)) = 0 then 0 else 1)] S2 (fun v S => v = some (.int r) ∧ S = S2') ∧ K S1' S2'
/-- what the two worlds' change must do -/
def zj_change (l : Launch) (E1 E2 : zx_E) (xs : Nat → Int32) (t : Nat) (K : zx_S → zx_S → Prop) (S1 S2 : zx_S) : Prop := ∃ (r : Int32) (S1' S2' : zx_S), zx_MC l E1 3 9 [.ref 0, .int (xs (t + 1)), .int (xs (t + 2))] S1 (fun v S => v = some (.int r) ∧ S = S1') ∧ zx_MR l E2 105 9 [.ref 0, .int (xs (t + 1)), .int (xs (t + 2))] S2 (fun v S => v = some (.int r) ∧ S = S2') ∧ K S1' S2'
/-- what the two worlds' at must do -/
def zj_at (l : Launch) (E1 E2 : zx_E) (xs : Nat → Int32) (t : Nat) (K : zx_S → zx_S → Prop) (S1 S2 : zx_S) : Prop := ∃ (r : Int32) (S1' S2' : zx_S), zx_MC l E1 4 9 [.ref 0, .int (xs (t + 1)), .int (if (xs (t + 2)) = 0 then 0 else 1)] S1 (fun v S => v = some (.int r) ∧ S = S1') ∧ zx_MR l E2 106 9 [.ref 0, .int (xs (t + 1)), .int (if (xs (t + 2)) = 0 then 0 else 1)] S2 (fun v S => v = some (.int r) ∧ S = S2') ∧ K S1' S2'
/-- what the two worlds' pack must do -/
def zj_pack (l : Launch) (E1 E2 : zx_E) (xs : Nat → Int32) (t : Nat) (K : zx_S → zx_S → Prop) (S1 S2 : zx_S) : Prop := ∃ (r : Int32) (S1' S2' : zx_S), zx_MC l E1 5 9 [.ref 0, .int (xs (t + 1)), .int (xs (t + 2)), .int (xs (t + 3))] S1 (fun v S => v = some (.int r) ∧ S = S1') ∧ zx_MR l E2 179 9 [.ref 0, .int (xs (t + 1)), .int (xs (t + 2)), .int (xs (t + 3))] S2 (fun v S => v = some (.int r) ∧ S = S2') ∧ K S1' S2'
/-- what the two worlds' unpack must do -/
def zj_unpack (l : Launch) (E1 E2 : zx_E) (xs : Nat → Int32) (t : Nat) (K : zx_S → zx_S → Prop) (S1 S2 : zx_S) : Prop := ∃ (r : Int32) (S1' S2' : zx_S), zx_MC l E1 6 9 [.ref 0] S1 (fun v S => v = some (.int r) ∧ S = S1') ∧ zx_MR l E2 132 9 [.ref 0] S2 (fun v S => v = some (.int r) ∧ S = S2') ∧ K S1' S2'
/-- what the two worlds' where must do -/
def zj_where (l : Launch) (E1 E2 : zx_E) (xs : Nat → Int32) (t : Nat) (K : zx_S → zx_S → Prop) (S1 S2 : zx_S) : Prop := ∃ (r : Int32) (S1' S2' : zx_S), zx_MC l E1 7 9 [.ref 0] S1 (fun v S => v = some (.int r) ∧ S = S1') ∧ zx_MR l E2 133 9 [.ref 0] S2 (fun v S => v = some (.int r) ∧ S = S2') ∧ K S1' S2'
/-- what the two worlds' watch must do -/
def zj_watch (l : Launch) (E1 E2 : zx_E) (xs : Nat → Int32) (t : Nat) (K : zx_S → zx_S → Prop) (S1 S2 : zx_S) : Prop := ∃ (r : Int32) (S1' S2' : zx_S), zx_MC l E1 8 9 [.ref 0, .int (xs (t + 1))] S1 (fun v S => v = some (.int r) ∧ S = S1') ∧ zx_MR l E2 134 9 [.ref 0, .int (xs (t + 1))] S2 (fun v S => v = some (.int r) ∧ S = S2') ∧ K S1' S2'
/-- what the two worlds' range must do -/
def zj_range (l : Launch) (E1 E2 : zx_E) (xs : Nat → Int32) (t : Nat) (K : zx_S → zx_S → Prop) (S1 S2 : zx_S) : Prop := ∃ (r : Int64) (S1' S2' : zx_S), zx_MC l E1 9 9 [.ref 0] S1 (fun v S => v = some (.long r) ∧ S = S1') ∧ zx_MR l E2 135 9 [.ref 0] S2 (fun v S => v = some (.long r) ∧ S = S2') ∧ K S1' S2'
/-- what the two worlds' code must do -/
def zj_code (l : Launch) (E1 E2 : zx_E) (xs : Nat → Int32) (t : Nat) (K : zx_S → zx_S → Prop) (S1 S2 : zx_S) : Prop := ∃ (r : Int64) (S1' S2' : zx_S), zx_MC l E1 10 9 [.ref 0] S1 (fun v S => v = some (.long r) ∧ S = S1') ∧ zx_MR l E2 136 9 [.ref 0] S2 (fun v S => v = some (.long r) ∧ S = S2') ∧ K S1' S2'
/-- what the two worlds' count must do -/
def zj_count (l : Launch) (E1 E2 : zx_E) (xs : Nat → Int32) (t : Nat) (K : zx_S → zx_S → Prop) (S1 S2 : zx_S) : Prop := ∃ (r : Int32) (S1' S2' : zx_S), zx_MC l E1 11 9 [.ref 0, .int (xs (t + 1))] S1 (fun v S => v = some (.int r) ∧ S = S1') ∧ zx_MR l E2 137 9 [.ref 0, .int (xs (t + 1))] S2 (fun v S => v = some (.int r) ∧ S = S2') ∧ K S1' S2'
/-- what the two worlds' sum must do -/
def zj_sum (l : Launch) (E1 E2 : zx_E) (xs : Nat → Int32) (t : Nat) (K : zx_S → zx_S → Prop) (S1 S2 : zx_S) : Prop := ∃ (r : Int64) (S1' S2' : zx_S), zx_MC l E1 12 9 [.ref 0, .int (if (xs (t + 1)) = 0 then 0 else 1)] S1 (fun v S => v = some (.long r) ∧ S = S1') ∧ zx_MR l E2 112 9 [.ref 0, .int (if (xs (t + 1)) = 0 then 0 else 1)] S2 (fun v S => v = some (.long r) ∧ S = S2') ∧ K S1' S2'
def zj (l : Launch) (E1 E2 : zx_E) (xs : Nat → Int32) (t : Nat) (K : zx_S → zx_S → Prop) (S1 S2 : zx_S) : Prop := (xs t &&& 15 = 0 → zj_feed l E1 E2 xs t K S1 S2) ∧ (xs t &&& 15 = 1 → zj_copy l E1 E2 xs t K S1 S2) ∧ (xs t &&& 15 = 2 → zj_cut l E1 E2 xs t K S1 S2) ∧ (xs t &&& 15 = 3 → zj_change l E1 E2 xs t K S1 S2) ∧ (xs t &&& 15 = 4 → zj_at l E1 E2 xs t K S1 S2) ∧ (xs t &&& 15 = 5 → zj_pack l E1 E2 xs t K S1 S2) ∧ (xs t &&& 15 = 6 → zj_unpack l E1 E2 xs t K S1 S2) ∧ (xs t &&& 15 = 7 → zj_where l E1 E2 xs t K S1 S2) ∧ (xs t &&& 15 = 8 → zj_watch l E1 E2 xs t K S1 S2) ∧ (xs t &&& 15 = 9 → zj_range l E1 E2 xs t K S1 S2) ∧ (xs t &&& 15 = 10 → zj_code l E1 E2 xs t K S1 S2) ∧ (xs t &&& 15 = 11 → zj_count l E1 E2 xs t K S1 S2) ∧ (xs t &&& 15 = 12 → zj_sum l E1 E2 xs t K S1 S2) ∧ K S1 S2
section ZS
variable {p : Program} {l : Launch} {e : Env} {s : State} {m : MethodId} {below : List Frame} {meth : Method} {c : Code} {b L : Nat} {xs : Nat → Int32} {E1 E2 : zx_E}
theorem zl_len {L t : Nat} (hL : L ≤ 2560) (ht : t ≤ 3000) : (Int32.ofNat L - 5 < nI t) ↔ L < t + 5 := by
  have e1 : (Int32.ofNat L).toInt = L := nI_toInt (n := L) (by omega)
  have e2 : (nI t).toInt = t := nI_toInt (by omega)
  have e3 : (Int32.ofNat L - 5).toInt = (L : Int) - 5 := by
    rw [Int32.toInt_sub, e1]
    have : (5 : Int32).toInt = 5 := rfl
    rw [this, Int.bmod_eq_of_le (by omega) (by omega)]
  rw [Int32.lt_iff_toInt_lt, e2, e3]
  omega
set_option maxHeartbeats 4000000 in
set_option maxRecDepth 100000 in
theorem zl_loop (hF : lw_At p s m meth c b L xs) (hE : zl_E s E1 E2) (hL : L ≤ 2560) (Inv : Nat → zx_S → zx_S → Prop) (J : ∀ (j : Nat) (S1 S2 : zx_S), 5 * j + 5 ≤ L → Inv j S1 S2 → zj l E1 E2 xs (5 * j) (Inv (j + 1)) S1 S2) : ∀ (n j : Nat) (S1 S2 : zx_S), L < 5 * (j + n) + 5 → 5 * j ≤ L + 5 → Inv j S1 S2 → zl_Z p l e s m below meth c b E1 E2 S1 S2 18 (nI (5 * j)) := by
  obtain ⟨hx, hb, hret, hml, hown, hts0, hX, hbl, hlk0, hgv⟩ := id hF
  have hts : ∀ w ∈ zx_WS, w.before #[Value.ref b] s = true := fun w h => hts0 w (List.mem_filter.mp h).1
  have back : ∀ (t : Nat) (S1 S2 : zx_S), zl_Z p l e s m below meth c b E1 E2 S1 S2 18 (nI (t + 5)) → zl_Z p l e s m below meth c b E1 E2 S1 S2 536 (nI t) := by
    intro t S1 S2 h H locs ls hP1 hP2 hS hl
    refine lv_iinc (k := 3) (v := nI (t + 5)) hx hb (by decide +kernel : decode code 536 = .ok (.iinc 3 5, 3)) hl rfl (by rw [← nI_add]; rfl) (by decide) rfl (fun ls hl => ?_)
    have hl := lv_sub (l' := [(0, .ref b), (1, .ref (E1.2.1 0)), (2, .ref (E2.2.1 0)), (3, .int (nI (t + 5)))]) hl [1, 2, 3, 0] rfl
    refine lv_goto (tgt := 18) hx hb (by decide +kernel : decode code 539 = .ok (.goto (-521), 3)) (by decide) ?_
    exact h H locs ls hP1 hP2 hS hl
  have head : ∀ (t : Nat) (S1 S2 : zx_S), t ≤ 3000 → (t + 5 ≤ L → zl_Z p l e s m below meth c b E1 E2 S1 S2 26 (nI t)) → zl_Z p l e s m below meth c b E1 E2 S1 S2 18 (nI t) := by
    intro t S1 S2 ht h H locs ls hP1 hP2 hS hl
    refine lv_iload_n hx hb (by decide +kernel : decode code 18 = .ok (.iload_n 3, 1)) rfl (lv_at hl 3 rfl) ?_
    refine lv_aload_n hx hb (by decide +kernel : decode code 19 = .ok (.aload_n 0, 1)) rfl (lv_at hl 0 rfl) ?_
    refine va_slen hx hb hX hbl (fun h => Nat.not_le_of_lt hbl h) hS (by decide +kernel : decode code 20 = .ok (.arraylength, 1)) ?_
    refine lv_iconst (v := 5) hx hb (by decide +kernel : decode code 21 = .ok (.iconst 5, 1)) (by decide) ?_
    refine lv_isub hx hb (by decide +kernel : decode code 22 = .ok (.isub, 1)) ?_
    refine lv_icmp_gt (tgt := 542) hx hb (by decide +kernel : decode code 23 = .ok (.if_icmp .gt 519, 3)) (by decide) (fun hc => ?_) (fun hc => ?_)
    · refine lv_iconst (v := 1) hx hb (by decide +kernel : decode code 542 = .ok (.iconst 1, 1)) (by decide) ?_
      refine va_forget (fun q hq => hS.2.2 q hq) ?_
      refine W.widen (k := room_1.cells) (n := room_1.slots) (Nat.le_of_ble_eq_true rfl) (Nat.le_of_ble_eq_true rfl) ?_
      exact lw_ret hx hb hret hlk0 (by decide +kernel : decode code 543 = .ok (.ireturn, 1))
    · exact h (by rw [zl_len hL ht] at hc; omega) H locs ls hP1 hP2 hS hl
  intro n
  induction n with
  | zero =>
    intro j S1 S2 hn hj _
    exact head _ S1 S2 (by omega) (fun h => by omega)
  | succ n ih =>
    intro j S1 S2 hn hj hI
    refine head _ S1 S2 (by omega) (fun ht => ?_)
    have hJ := J j S1 S2 ht hI
    have nxt : ∀ S1' S2', Inv (j + 1) S1' S2' → zl_Z p l e s m below meth c b E1 E2 S1' S2' 536 (nI (5 * j)) := fun S1' S2' h => back _ S1' S2' (by
      have := ih (j + 1) S1' S2' (by omega) (by omega) h
      rwa [show 5 * (j + 1) = 5 * j + 5 by omega] at this)
    generalize 5 * j = t at *
    obtain ⟨k, hk, hxk⟩ := pk_andE (xs t) (m := 15) 4 (by decide)
    intro H locs ls hP1 hP2 hS hl
    refine lv_aload_n hx hb (by decide +kernel : decode code 26 = .ok (.aload_n 0, 1)) rfl (lv_at hl 0 rfl) ?_
    refine lv_iload_n hx hb (by decide +kernel : decode code 27 = .ok (.iload_n 3, 1)) rfl (lv_at hl 3 rfl) ?_
    refine va_sld hx hb hX hbl (fun h => Nat.not_le_of_lt hbl h) hS (vp_in_nI (show t < L by omega) (by omega)) (by decide +kernel : decode code 28 = .ok (.iaload, 1)) ?_
    rw [nI_clamp (by omega)]
    refine lv_bipush (v := 15) hx hb (by decide +kernel : decode code 29 = .ok (.bipush 15, 2)) (by decide) ?_
    refine lv_iand hx hb (by decide +kernel : decode code 31 = .ok (.iand, 1)) ?_
    obtain ⟨j0, j1, j2, j3, j4, j5, j6, j7, j8, j9, j10, j11, j12, jd⟩ := hJ
    rw [hxk] at j0 j1 j2 j3 j4 j5 j6 j7 j8 j9 j10 j11 j12 ⊢
    have hd : decode code 32 = .ok (.tableswitch 504 0 12 #[68, 157, 190, 239, 272, 321, 364, 377, 390, 413, 427, 441, 464], 68) := by decide +kernel
    match k, hk with
    | 0, _ =>
      obtain ⟨r, S1', S2', h1, h2, hK⟩ := j0 rfl
      exact lv_tableIn (off := 68) (tgt := 100) hx hb hd (by decide) (by decide) (by decide) (by decide) (zl_feed hF hE hL ht h1 h2 (nxt S1' S2' hK) H locs ls hP1 hP2 hS hl)
    | 1, _ =>
      obtain ⟨r, S1', S2', h1, h2, hK⟩ := j1 rfl
      exact lv_tableIn (off := 157) (tgt := 189) hx hb hd (by decide) (by decide) (by decide) (by decide) (zl_copy hF hE hL ht h1 h2 (nxt S1' S2' hK) H locs ls hP1 hP2 hS hl)
    | 2, _ =>
      obtain ⟨r, S1', S2', h1, h2, hK⟩ := j2 rfl
      exact lv_tableIn (off := 190) (tgt := 222) hx hb hd (by decide) (by decide) (by decide) (by decide) (zl_cut hF hE hL ht h1 h2 (nxt S1' S2' hK) H locs ls hP1 hP2 hS hl)
    | 3, _ =>
      obtain ⟨r, S1', S2', h1, h2, hK⟩ := j3 rfl
      exact lv_tableIn (off := 239) (tgt := 271) hx hb hd (by decide) (by decide) (by decide) (by decide) (zl_change hF hE hL ht h1 h2 (nxt S1' S2' hK) H locs ls hP1 hP2 hS hl)
    | 4, _ =>
      obtain ⟨r, S1', S2', h1, h2, hK⟩ := j4 rfl
      exact lv_tableIn (off := 272) (tgt := 304) hx hb hd (by decide) (by decide) (by decide) (by decide) (zl_at hF hE hL ht h1 h2 (nxt S1' S2' hK) H locs ls hP1 hP2 hS hl)
    | 5, _ =>
      obtain ⟨r, S1', S2', h1, h2, hK⟩ := j5 rfl
      exact lv_tableIn (off := 321) (tgt := 353) hx hb hd (by decide) (by decide) (by decide) (by decide) (zl_pack hF hE hL ht h1 h2 (nxt S1' S2' hK) H locs ls hP1 hP2 hS hl)
    | 6, _ =>
      obtain ⟨r, S1', S2', h1, h2, hK⟩ := j6 rfl
      exact lv_tableIn (off := 364) (tgt := 396) hx hb hd (by decide) (by decide) (by decide) (by decide) (zl_unpack hF hE hL ht h1 h2 (nxt S1' S2' hK) H locs ls hP1 hP2 hS hl)
    | 7, _ =>
      obtain ⟨r, S1', S2', h1, h2, hK⟩ := j7 rfl
      exact lv_tableIn (off := 377) (tgt := 409) hx hb hd (by decide) (by decide) (by decide) (by decide) (zl_where hF hE hL ht h1 h2 (nxt S1' S2' hK) H locs ls hP1 hP2 hS hl)
    | 8, _ =>
      obtain ⟨r, S1', S2', h1, h2, hK⟩ := j8 rfl
      exact lv_tableIn (off := 390) (tgt := 422) hx hb hd (by decide) (by decide) (by decide) (by decide) (zl_watch hF hE hL ht h1 h2 (nxt S1' S2' hK) H locs ls hP1 hP2 hS hl)
    | 9, _ =>
      obtain ⟨r, S1', S2', h1, h2, hK⟩ := j9 rfl
      exact lv_tableIn (off := 413) (tgt := 445) hx hb hd (by decide) (by decide) (by decide) (by decide) (zl_range hF hE hL ht h1 h2 (nxt S1' S2' hK) H locs ls hP1 hP2 hS hl)
    | 10, _ =>
      obtain ⟨r, S1', S2', h1, h2, hK⟩ := j10 rfl
      exact lv_tableIn (off := 427) (tgt := 459) hx hb hd (by decide) (by decide) (by decide) (by decide) (zl_code hF hE hL ht h1 h2 (nxt S1' S2' hK) H locs ls hP1 hP2 hS hl)
    | 11, _ =>
      obtain ⟨r, S1', S2', h1, h2, hK⟩ := j11 rfl
      exact lv_tableIn (off := 441) (tgt := 473) hx hb hd (by decide) (by decide) (by decide) (by decide) (zl_count hF hE hL ht h1 h2 (nxt S1' S2' hK) H locs ls hP1 hP2 hS hl)
    | 12, _ =>
      obtain ⟨r, S1', S2', h1, h2, hK⟩ := j12 rfl
      exact lv_tableIn (off := 464) (tgt := 496) hx hb hd (by decide) (by decide) (by decide) (by decide) (zl_sum hF hE hL ht h1 h2 (nxt S1' S2' hK) H locs ls hP1 hP2 hS hl)
    | 13, _ => exact lv_tableOut (tgt := 536) hx hb hd (by decide) (by decide) (nxt S1 S2 jd H locs ls hP1 hP2 hS hl)
    | 14, _ => exact lv_tableOut (tgt := 536) hx hb hd (by decide) (by decide) (nxt S1 S2 jd H locs ls hP1 hP2 hS hl)
    | 15, _ => exact lv_tableOut (tgt := 536) hx hb hd (by decide) (by decide) (nxt S1 S2 jd H locs ls hP1 hP2 hS hl)
    | _ + 16, h => exact absurd h (by omega)
end ZS
