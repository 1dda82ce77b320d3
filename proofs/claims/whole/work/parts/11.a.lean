def fy_sum (r : Nat → Int32) : Nat → Nat → Int
  | _, 0 => 0
  | i, n + 1 => (r i).toInt + fy_sum r (i + 1) n
theorem fy_rlt {r : Nat → Int32} {o j : Nat} {x : Int} (h : 0 ≤ x ∧ x < fy_sum r (o + j) (10 - j)) : j < 10 := by
  rcases Nat.lt_or_ge j 10 with q | q
  · exact q
  · rw [show 10 - j = 0 by omega] at h
    have : fy_sum r (o + j) 0 = 0 := rfl
    omega
theorem fx_rem32 {a b : Int32} (h : ¬ b = 0) : (a - a / b * b).toInt = a.toInt.tmod b.toInt := by
  have hb : b.toInt ≠ 0 := fun h9 => h (Int32.toInt_inj.mp (h9.trans (show (0 : Int) = (0 : Int32).toInt from rfl)))
  have l1 := b.toInt_lt
  have l2 := b.le_toInt
  have hm : (a.toInt.tmod b.toInt).natAbs < b.toInt.natAbs := by
    rw [Int.natAbs_tmod]
    exact Nat.mod_lt _ (Int.natAbs_pos.mpr hb)
  rw [Int32.toInt_sub, Int32.toInt_mul, Int32.toInt_div]
  have e : a.toInt - a.toInt.tdiv b.toInt * b.toInt = a.toInt.tmod b.toInt := by
    rw [Int.tmod_def, Int.mul_comm]
  rw [Int.sub_bmod_bmod, Int.sub_eq_add_neg, ← Int.neg_mul, Int.neg_mul, ← Int.sub_eq_add_neg]
  rw [← Int.sub_bmod_bmod, Int.bmod_mul_bmod, Int.sub_bmod_bmod, e]
  exact Int.bmod_eq_of_le (by omega) (by omega)
theorem dr_nz {x : Int32} (h : 0 < x.toInt) : ¬ x = 0 := by
  intro h9
  rw [h9] at h
  exact absurd h (by decide)
theorem seed_e {s : Int32} (h : 0 ≤ s.toInt ∧ s.toInt ≤ 65536) : (s * 75 + 74).toInt = s.toInt * 75 + 74 ∧ (s * 75 + 74 - (s * 75 + 74) / 65537 * 65537).toInt = (s.toInt * 75 + 74) % 65537 := by
  have z5 : (75 : Int32).toInt = 75 := rfl
  have z4 : (74 : Int32).toInt = 74 := rfl
  have z7 : (65537 : Int32).toInt = 65537 := rfl
  have e1 : (s * 75).toInt = s.toInt * 75 := by rw [a_mul (by rw [z5]; omega) (by rw [z5]; omega), z5]
  have e2 : (s * 75 + 74).toInt = s.toInt * 75 + 74 := by rw [a_add (by rw [e1, z4]; omega) (by rw [e1, z4]; omega), e1, z4]
  refine ⟨e2, ?_⟩
  rw [fx_rem32 (by decide), e2, z7, Int.tmod_eq_emod_of_nonneg (by omega)]
def X7_drawn_seed (s : Int32) : Int32 := s * 75 + 74 - (s * 75 + 74) / 65537 * 65537
theorem seed_b {s : Int32} (h : 0 ≤ s.toInt ∧ s.toInt ≤ 65536) : 0 ≤ (X7_drawn_seed s).toInt ∧ (X7_drawn_seed s).toInt ≤ 65536 := by
  unfold X7_drawn_seed
  rw [(seed_e h).2]
  omega
theorem sum_l {r : Nat → Int32} {p : Int32} (hd : ∀ k : Nat, k < 20 → 0 ≤ (r k).toInt ∧ (r k).toInt ≤ 9) (hp : p.toNatClampNeg ≤ 1) : ∀ n, n ≤ 10 → (X7_sumOf_L4 r p n).toInt + fy_sum r (10 * p.toNatClampNeg + n) (10 - n) = fy_sum r (10 * p.toNatClampNeg) 10 ∧ 0 ≤ (X7_sumOf_L4 r p n).toInt ∧ (X7_sumOf_L4 r p n).toInt ≤ 9 * n := by
  intro n
  induction n with
  | zero => intro _; exact ⟨Int.zero_add _, Int.le_refl 0, Int.le_refl 0⟩
  | succ n ih =>
    intro hn
    obtain ⟨a, b, c⟩ := ih (by omega)
    have d := hd (10 * p.toNatClampNeg + n) (by omega)
    have e : (X7_sumOf_L4 r p (n + 1)).toInt = (X7_sumOf_L4 r p n).toInt + (r (10 * p.toNatClampNeg + n)).toInt := by
      rw [X7_sumOf_L4]
      exact a_add (by omega) (by omega)
    have f : fy_sum r (10 * p.toNatClampNeg + n) (10 - n) = (r (10 * p.toNatClampNeg + n)).toInt + fy_sum r (10 * p.toNatClampNeg + (n + 1)) (10 - (n + 1)) := by
      rw [show 10 - n = (10 - (n + 1)) + 1 by omega]
      rfl
    rw [e]
    omega
theorem sum_e {r : Nat → Int32} {p : Int32} (hd : ∀ k : Nat, k < 20 → 0 ≤ (r k).toInt ∧ (r k).toInt ≤ 9) (hp : p.toNatClampNeg ≤ 1) : (X7_sumOf r p).toInt = fy_sum r (10 * p.toNatClampNeg) 10 ∧ (X7_sumOf r p).toInt ≤ 90 := by
  obtain ⟨a, b, c⟩ := sum_l (r := r) (p := p) hd hp 10 (Nat.le_refl 10)
  have : fy_sum r (10 * p.toNatClampNeg + 10) (10 - 10) = 0 := rfl
  unfold X7_sumOf
  exact ⟨by omega, by omega⟩
theorem dr_ent {r : Nat → Int32} {p s : Int32} (hd : ∀ k : Nat, k < 20 → 0 ≤ (r k).toInt ∧ (r k).toInt ≤ 9) (hp0 : 0 ≤ p) (hp1 : p ≤ 1) (hsum : 0 < (X7_sumOf r p).toInt) (hs : 0 ≤ s.toInt ∧ s.toInt ≤ 65536) :
    0 ≤ ((s * 75 + 74 - (s * 75 + 74) / 65537 * 65537) - (s * 75 + 74 - (s * 75 + 74) / 65537 * 65537) / (X7_sumOf r p) * (X7_sumOf r p)).toInt ∧ ((s * 75 + 74 - (s * 75 + 74) / 65537 * 65537) - (s * 75 + 74 - (s * 75 + 74) / 65537 * 65537) / (X7_sumOf r p) * (X7_sumOf r p)).toInt < fy_sum r (10 * p.toNatClampNeg + 0) (10 - 0) := by
  have S := sum_e (r := r) (p := p) hd (fx_tb (N := 1) (n := 1) rfl (by decide) hp0 hp1)
  have E := (seed_e hs).2
  rw [fx_rem32 (dr_nz hsum), E, Int.tmod_eq_emod_of_nonneg (by omega)]
  show 0 ≤ _ ∧ _ < fy_sum r (10 * p.toNatClampNeg) 10
  rw [← S.1]
  exact ⟨Int.emod_nonneg _ (by omega), Int.emod_lt_of_pos _ hsum⟩
theorem dr_back {r : Nat → Int32} {o j : Nat} {x : Int32} (hd : 0 ≤ (r (o + j)).toInt ∧ (r (o + j)).toInt ≤ 9) (h : 0 ≤ x.toInt ∧ x.toInt < fy_sum r (o + j) (10 - j)) (hc : ¬ x < r (o + j)) : 0 ≤ (x - r (o + j)).toInt ∧ (x - r (o + j)).toInt < fy_sum r (o + (j + 1)) (10 - (j + 1)) := by
  have hj := fy_rlt h
  rw [lt32] at hc
  have := x.toInt_lt
  have e : (x - r (o + j)).toInt = x.toInt - (r (o + j)).toInt := a_sub (by omega) (by omega)
  have f : fy_sum r (o + j) (10 - j) = (r (o + j)).toInt + fy_sum r (o + (j + 1)) (10 - (j + 1)) := by
    rw [show 10 - j = (10 - (j + 1)) + 1 by omega]
    rfl
  rw [e]
  omega

def X7_drawn_L30 (v_rows : Nat → Int32) (p_p : Int32) : Nat → Nat → Int32 → Nat × Int32
  | 0, j30, x30_l2 => (j30, x30_l2)
  | n + 1, j30, x30_l2 => (if x30_l2 < (v_rows ((10 * p_p.toNatClampNeg) + j30)) then (j30, x30_l2) else (X7_drawn_L30 v_rows p_p n (j30 + 1) (x30_l2 - (v_rows ((10 * p_p.toNatClampNeg) + j30)))))
def X7_drawn (v_seed : Int32) (v_rows : Nat → Int32) (p_p : Int32) : Int32 := (nI ((X7_drawn_L30 v_rows p_p 11 0 ((((v_seed * (75 : Int32)) + (74 : Int32)) - ((v_seed * (75 : Int32)) + (74 : Int32)) / (65537 : Int32) * (65537 : Int32)) - (((v_seed * (75 : Int32)) + (74 : Int32)) - ((v_seed * (75 : Int32)) + (74 : Int32)) / (65537 : Int32) * (65537 : Int32)) / (X7_sumOf v_rows p_p) * (X7_sumOf v_rows p_p))).1))
def X7_drawn_o_seed (v_seed : Int32) : Int32 := (((v_seed * (75 : Int32)) + (74 : Int32)) - ((v_seed * (75 : Int32)) + (74 : Int32)) / (65537 : Int32) * (65537 : Int32))
abbrev rX7_drawn : Room := { frames := 1, cells := 0, slots := 0, locals := 23 }
theorem n_X7_drawn_X7 : ∀ w ∈ wsX70, w ∈ wsX7_drawn := by decide +kernel
set_option maxHeartbeats 8000000 in
set_option maxRecDepth 100000 in
theorem k_X7_drawn (l : Launch) (G : fxE) (hG : fxGood G) (D : va_G) (cI cJ cZ cH : ClassId) (a_start a_mass a_rows a_told a_sign a_kept a_ended a_cell a_loss a_read a_times a_gains a_image a_isKept a_this : Nat) (v_signs : Int32) (v_many : Int32) (v_left : Int64) (v_rime : Int64) (v_frost : Int64) (v_began : Int32) (v_last : Int32) (v_rounds : Int32) (v_seed : Int32) (v_rows : Nat → Int32) (p_p : Int32) (hp0 : 0 ≤ p_p) (hp1 : p_p ≤ 1) (hd : ∀ k : Nat, k < 20 → 0 ≤ (v_rows k).toInt ∧ (v_rows k).toInt ≤ 9) (hsum : 0 < (X7_sumOf v_rows p_p).toInt) (hsd : 0 ≤ v_seed.toInt ∧ v_seed.toInt ≤ 65536) : MetI l yX7_drawn wsX7_drawn rX7_drawn G D (tyL cI cJ cZ cH) [.ref a_this, .int p_p] [(a_this, .inr (7, [.ref a_start, .ref a_mass, .ref a_rows, .ref a_told, .int v_signs, .ref a_sign, .int v_many, .ref a_kept, .ref a_ended, .ref a_cell, .ref a_loss, .long v_left, .long v_rime, .long v_frost, .int v_began, .int v_last, .int v_rounds, .ref a_read, .ref a_times, .ref a_gains, .int v_seed, .ref a_image, .ref a_isKept])), (a_rows, .inl (cI, 20, .inl v_rows))] (X7_drawn v_seed v_rows p_p) [(a_this, .inr (7, [.ref a_start, .ref a_mass, .ref a_rows, .ref a_told, .int v_signs, .ref a_sign, .int v_many, .ref a_kept, .ref a_ended, .ref a_cell, .ref a_loss, .long v_left, .long v_rime, .long v_frost, .int v_began, .int v_last, .int v_rounds, .ref a_read, .ref a_times, .ref a_gains, .int (X7_drawn_o_seed v_seed), .ref a_image, .ref a_isKept])), (a_rows, .inl (cI, 20, .inl v_rows))] := by
  refine fx_startI (cc := cX7_drawn) (n := 4) (rt := .int) (plainFor_of_name (by decide)) rfl (Nat.le_of_ble_eq_true rfl) rfl ?_
  intro p e s m args below meth c A Q ls hx hb hml hown hts hA hGs hK hP hD hS hl hret
  have hl : lv_has ls 4 [(0, .ref a_this), (1, .int p_p)] := hl
  have iX7 := n_X7_drawn_X7
  have f187 := hts (.fieldLink RX7 187 "FrozeFirstModel" "seed" "I") (by decide +kernel)
  have k190 := hts (.constant RX7 190 65537) (by decide +kernel)
  have f16 := hts (.fieldLink RX7 16 "FrozeFirstModel" "rows" "[I") (by decide +kernel)
  have e_p := fx_tn hp0
  have b_p := fx_tb (N := 1) (n := 1) rfl (by decide) hp0 hp1
  refine lv_aload_n hx hb dX7_drawn_0 rfl (lv_at hl 0 rfl) ?_
  refine lv_aload_n hx hb dX7_drawn_1 rfl (lv_at hl 0 rfl) ?_
  refine va_get (D := D) (ci := 7) (v := .int v_seed) (C := RX7) (T := TX7) (N := 23) hx hb hts iX7 hown hK hP 0 rfl rfl 20 (by decide) f187 (fun _ h9 => h9) rfl dX7_drawn_2 ?_
  refine lv_bipush (v := 75) hx hb dX7_drawn_5 (by decide) ?_
  refine lv_imul hx hb dX7_drawn_7 ?_
  refine lv_bipush (v := 74) hx hb dX7_drawn_8 (by decide) ?_
  refine lv_iadd hx hb dX7_drawn_10 ?_
  refine lv_ldc (v := 65537) hx hb hown k190 dX7_drawn_11 ?_
  refine lv_irem hx hb dX7_drawn_13 (by decide) ?_
  refine va_put (D := D) (ci := 7) (v := .int (((v_seed * (75 : Int32)) + (74 : Int32)) - ((v_seed * (75 : Int32)) + (74 : Int32)) / (65537 : Int32) * (65537 : Int32))) (ty := .int) (C := RX7) (T := TX7) (N := 23) hx hb hts iX7 tyX7 tyX7_ok nmX7 hown hK hP hD hS 0 rfl rfl 20 (by decide) f187 (fun _ h9 => h9) rfl (tyX7_ok 20 (by decide)) rfl rfl (Nat.le_of_ble_eq_true rfl) dX7_drawn_14 (fun H locs hP hD hS => ?_)
  have hP : va_P D vwCl [(a_this, .inr (7, [.ref a_start, .ref a_mass, .ref a_rows, .ref a_told, .int v_signs, .ref a_sign, .int v_many, .ref a_kept, .ref a_ended, .ref a_cell, .ref a_loss, .long v_left, .long v_rime, .long v_frost, .int v_began, .int v_last, .int v_rounds, .ref a_read, .ref a_times, .ref a_gains, .int (((v_seed * (75 : Int32)) + (74 : Int32)) - ((v_seed * (75 : Int32)) + (74 : Int32)) / (65537 : Int32) * (65537 : Int32)), .ref a_image, .ref a_isKept])), (a_rows, .inl (cI, 20, .inl v_rows))] H := hP
  have hD : va_D A [(a_this, .inr (7, [.ref a_start, .ref a_mass, .ref a_rows, .ref a_told, .int v_signs, .ref a_sign, .int v_many, .ref a_kept, .ref a_ended, .ref a_cell, .ref a_loss, .long v_left, .long v_rime, .long v_frost, .int v_began, .int v_last, .int v_rounds, .ref a_read, .ref a_times, .ref a_gains, .int (((v_seed * (75 : Int32)) + (74 : Int32)) - ((v_seed * (75 : Int32)) + (74 : Int32)) / (65537 : Int32) * (65537 : Int32)), .ref a_image, .ref a_isKept])), (a_rows, .inl (cI, 20, .inl v_rows))] := hD
  refine lv_aload_n hx hb dX7_drawn_17 rfl (lv_at hl 0 rfl) ?_
  refine va_get (D := D) (ci := 7) (v := .int (((v_seed * (75 : Int32)) + (74 : Int32)) - ((v_seed * (75 : Int32)) + (74 : Int32)) / (65537 : Int32) * (65537 : Int32))) (C := RX7) (T := TX7) (N := 23) hx hb hts iX7 hown hK hP 0 rfl rfl 20 (by decide) f187 (fun _ h9 => h9) rfl dX7_drawn_18 ?_
  refine lv_aload_n hx hb dX7_drawn_21 rfl (lv_at hl 0 rfl) ?_
  refine lv_iload_n hx hb dX7_drawn_22 rfl (lv_at hl 1 rfl) ?_
  refine fx_callVI (As := [.int p_p]) (rest := [.int (((v_seed * (75 : Int32)) + (74 : Int32)) - ((v_seed * (75 : Int32)) + (74 : Int32)) / (65537 : Int32) * (65537 : Int32))]) (wr := []) ⟨hx, hb, hml, hown, hts⟩ hG hGs (k_X7_sumOf l G hG D cI cJ cZ cH a_start a_mass a_rows a_told a_sign a_kept a_ended a_cell a_loss a_read a_times a_gains a_image a_isKept a_this v_signs v_many v_left v_rime v_frost v_began v_last v_rounds (((v_seed * (75 : Int32)) + (74 : Int32)) - ((v_seed * (75 : Int32)) + (74 : Int32)) / (65537 : Int32) * (65537 : Int32)) v_rows p_p  hp0 hp1) (cwV 1 hts gX7_drawn_X7_sumOf rfl rfl rfl (by decide +kernel) ⟨by decide, by decide⟩) hK hP hD hS hA [0, 1] [] rfl rfl (by decide) (by decide) (by decide) 0 rfl rfl rfl rfl hl.1 (Nat.le_of_ble_eq_true rfl) dX7_drawn_23 (Nat.zero_le _) (Nat.zero_le _) (fun H locs hP hD hS => ?_)
  have hP : va_P D vwCl [(a_this, .inr (7, [.ref a_start, .ref a_mass, .ref a_rows, .ref a_told, .int v_signs, .ref a_sign, .int v_many, .ref a_kept, .ref a_ended, .ref a_cell, .ref a_loss, .long v_left, .long v_rime, .long v_frost, .int v_began, .int v_last, .int v_rounds, .ref a_read, .ref a_times, .ref a_gains, .int (((v_seed * (75 : Int32)) + (74 : Int32)) - ((v_seed * (75 : Int32)) + (74 : Int32)) / (65537 : Int32) * (65537 : Int32)), .ref a_image, .ref a_isKept])), (a_rows, .inl (cI, 20, .inl v_rows))] H := hP
  have hD : va_D A [(a_this, .inr (7, [.ref a_start, .ref a_mass, .ref a_rows, .ref a_told, .int v_signs, .ref a_sign, .int v_many, .ref a_kept, .ref a_ended, .ref a_cell, .ref a_loss, .long v_left, .long v_rime, .long v_frost, .int v_began, .int v_last, .int v_rounds, .ref a_read, .ref a_times, .ref a_gains, .int (((v_seed * (75 : Int32)) + (74 : Int32)) - ((v_seed * (75 : Int32)) + (74 : Int32)) / (65537 : Int32) * (65537 : Int32)), .ref a_image, .ref a_isKept])), (a_rows, .inl (cI, 20, .inl v_rows))] := hD
  refine lv_irem hx hb dX7_drawn_26 (dr_nz hsum) ?_
  refine lv_istore_n (lv' := [(2, .int ((((v_seed * (75 : Int32)) + (74 : Int32)) - ((v_seed * (75 : Int32)) + (74 : Int32)) / (65537 : Int32) * (65537 : Int32)) - (((v_seed * (75 : Int32)) + (74 : Int32)) - ((v_seed * (75 : Int32)) + (74 : Int32)) / (65537 : Int32) * (65537 : Int32)) / (X7_sumOf v_rows p_p) * (X7_sumOf v_rows p_p))), (0, .ref a_this), (1, .int p_p)]) hx hb dX7_drawn_27 rfl hl (by decide) rfl (fun ls hl => ?_)
  refine lv_iconst (v := 0) hx hb dX7_drawn_28 (by decide) ?_
  refine lv_istore_n (lv' := [(3, .int (0 : Int32)), (2, .int ((((v_seed * (75 : Int32)) + (74 : Int32)) - ((v_seed * (75 : Int32)) + (74 : Int32)) / (65537 : Int32) * (65537 : Int32)) - (((v_seed * (75 : Int32)) + (74 : Int32)) - ((v_seed * (75 : Int32)) + (74 : Int32)) / (65537 : Int32) * (65537 : Int32)) / (X7_sumOf v_rows p_p) * (X7_sumOf v_rows p_p))), (0, .ref a_this), (1, .int p_p)]) hx hb dX7_drawn_29 rfl hl (by decide) rfl (fun ls hl => ?_)
  have L30 : ∀ (n : Nat) (j30 : Nat) (x30_l2 : Int32), 10 - j30 < n → 0 ≤ x30_l2.toInt ∧ x30_l2.toInt < fy_sum v_rows (10 * p_p.toNatClampNeg + j30) (10 - j30) → X7_drawn_L30 v_rows p_p n j30 x30_l2 = (X7_drawn_L30 v_rows p_p 11 0 ((((v_seed * (75 : Int32)) + (74 : Int32)) - ((v_seed * (75 : Int32)) + (74 : Int32)) / (65537 : Int32) * (65537 : Int32)) - (((v_seed * (75 : Int32)) + (74 : Int32)) - ((v_seed * (75 : Int32)) + (74 : Int32)) / (65537 : Int32) * (65537 : Int32)) / (X7_sumOf v_rows p_p) * (X7_sumOf v_rows p_p))) → ∀ (H : Heap) (locs : List Loc), va_P D vwCl [(a_this, .inr (7, [.ref a_start, .ref a_mass, .ref a_rows, .ref a_told, .int v_signs, .ref a_sign, .int v_many, .ref a_kept, .ref a_ended, .ref a_cell, .ref a_loss, .long v_left, .long v_rime, .long v_frost, .int v_began, .int v_last, .int v_rounds, .ref a_read, .ref a_times, .ref a_gains, .int (((v_seed * (75 : Int32)) + (74 : Int32)) - ((v_seed * (75 : Int32)) + (74 : Int32)) / (65537 : Int32) * (65537 : Int32)), .ref a_image, .ref a_isKept])), (a_rows, .inl (cI, 20, .inl v_rows))] H → va_D A [(a_this, .inr (7, [.ref a_start, .ref a_mass, .ref a_rows, .ref a_told, .int v_signs, .ref a_sign, .int v_many, .ref a_kept, .ref a_ended, .ref a_cell, .ref a_loss, .long v_left, .long v_rime, .long v_frost, .int v_began, .int v_last, .int v_rounds, .ref a_read, .ref a_times, .ref a_gains, .int (((v_seed * (75 : Int32)) + (74 : Int32)) - ((v_seed * (75 : Int32)) + (74 : Int32)) / (65537 : Int32) * (65537 : Int32)), .ref a_image, .ref a_isKept])), (a_rows, .inl (cI, 20, .inl v_rows))] → va_S A s.heap H locs → ∀ (ls : Array Slot), lv_has ls 4 [(0, .ref a_this), (1, .int p_p), (2, .int x30_l2), (3, .int (nI j30))] → W p l e rX7_drawn s m args below meth c H locs 0 0 Q (F0 m 30 ls []) := by
    intro n
    induction n with
    | zero => intro j30 x30_l2 h1; exact absurd h1 (Nat.not_lt_zero _)
    | succ n ih30 =>
      intro j30 x30_l2 hm30 hr30 hF30 H locs hP hD hS ls hl
      have hb30 := fy_rlt hr30
      refine lv_iload_n hx hb dX7_drawn_30 rfl (lv_at hl 2 rfl) ?_
      refine lv_aload_n hx hb dX7_drawn_31 rfl (lv_at hl 0 rfl) ?_
      refine va_get (D := D) (ci := 7) (v := .ref a_rows) (C := RX7) (T := TX7) (N := 23) hx hb hts iX7 hown hK hP 0 rfl rfl 2 (by decide) f16 (fun _ h9 => h9) rfl dX7_drawn_32 ?_
      refine lv_bipush (v := 10) hx hb dX7_drawn_35 (by decide) ?_
      refine lv_iload_n hx hb dX7_drawn_37 rfl (lv_at hl 1 rfl) ?_
      refine lv_imul hx hb dX7_drawn_38 ?_
      refine W.eq (g2 := F0 m 39 ls (.int (nI (10 * p_p.toNatClampNeg)) :: [.ref a_rows, .int x30_l2])) (congrArg (fun z9 : Int32 => F0 m 39 ls (.int z9 :: [.ref a_rows, .int x30_l2])) (fx_mulN (x := (10 : Int32)) (y := p_p) (a := 10) (b := p_p.toNatClampNeg) rfl e_p)) ?_
      refine lv_iload_n hx hb dX7_drawn_39 rfl (lv_at hl 3 rfl) ?_
      refine lv_iadd hx hb dX7_drawn_40 ?_
      refine W.eq (g2 := F0 m 41 ls (.int (nI ((10 * p_p.toNatClampNeg) + j30)) :: [.ref a_rows, .int x30_l2])) (congrArg (fun z9 : Int32 => F0 m 41 ls (.int z9 :: [.ref a_rows, .int x30_l2])) (fx_addN (x := nI (10 * p_p.toNatClampNeg)) (y := nI j30) (a := (10 * p_p.toNatClampNeg)) (b := j30) rfl rfl)) ?_
      refine fx_iald hx hb hK hP 1 0 rfl rfl ((10 * p_p.toNatClampNeg) + j30) rfl (by omega) (by decide) dX7_drawn_41 ?_
      refine lv_icmp_lt (tgt := 65) hx hb dX7_drawn_42 (by decide) (fun c42 => ?_) (fun c42 => ?_)
      · have hx30 : (X7_drawn_L30 v_rows p_p 11 0 ((((v_seed * (75 : Int32)) + (74 : Int32)) - ((v_seed * (75 : Int32)) + (74 : Int32)) / (65537 : Int32) * (65537 : Int32)) - (((v_seed * (75 : Int32)) + (74 : Int32)) - ((v_seed * (75 : Int32)) + (74 : Int32)) / (65537 : Int32) * (65537 : Int32)) / (X7_sumOf v_rows p_p) * (X7_sumOf v_rows p_p))) = (j30, x30_l2) := by rw [← hF30]; simp only [X7_drawn_L30, if_pos c42]
        have q30_0 : j30 = (X7_drawn_L30 v_rows p_p 11 0 ((((v_seed * (75 : Int32)) + (74 : Int32)) - ((v_seed * (75 : Int32)) + (74 : Int32)) / (65537 : Int32) * (65537 : Int32)) - (((v_seed * (75 : Int32)) + (74 : Int32)) - ((v_seed * (75 : Int32)) + (74 : Int32)) / (65537 : Int32) * (65537 : Int32)) / (X7_sumOf v_rows p_p) * (X7_sumOf v_rows p_p))).1 := by rw [hx30]
        have q30_1 : x30_l2 = (X7_drawn_L30 v_rows p_p 11 0 ((((v_seed * (75 : Int32)) + (74 : Int32)) - ((v_seed * (75 : Int32)) + (74 : Int32)) / (65537 : Int32) * (65537 : Int32)) - (((v_seed * (75 : Int32)) + (74 : Int32)) - ((v_seed * (75 : Int32)) + (74 : Int32)) / (65537 : Int32) * (65537 : Int32)) / (X7_sumOf v_rows p_p) * (X7_sumOf v_rows p_p))).2 := by rw [hx30]
        subst q30_0
        subst q30_1
        have hl := lv_sub (l' := [(3, .int (nI ((X7_drawn_L30 v_rows p_p 11 0 ((((v_seed * (75 : Int32)) + (74 : Int32)) - ((v_seed * (75 : Int32)) + (74 : Int32)) / (65537 : Int32) * (65537 : Int32)) - (((v_seed * (75 : Int32)) + (74 : Int32)) - ((v_seed * (75 : Int32)) + (74 : Int32)) / (65537 : Int32) * (65537 : Int32)) / (X7_sumOf v_rows p_p) * (X7_sumOf v_rows p_p))).1)))]) hl [3] rfl
        have hP : va_P D vwCl [(a_this, .inr (7, [.ref a_start, .ref a_mass, .ref a_rows, .ref a_told, .int v_signs, .ref a_sign, .int v_many, .ref a_kept, .ref a_ended, .ref a_cell, .ref a_loss, .long v_left, .long v_rime, .long v_frost, .int v_began, .int v_last, .int v_rounds, .ref a_read, .ref a_times, .ref a_gains, .int (((v_seed * (75 : Int32)) + (74 : Int32)) - ((v_seed * (75 : Int32)) + (74 : Int32)) / (65537 : Int32) * (65537 : Int32)), .ref a_image, .ref a_isKept])), (a_rows, .inl (cI, 20, .inl v_rows))] H := hP
        have hD : va_D A [(a_this, .inr (7, [.ref a_start, .ref a_mass, .ref a_rows, .ref a_told, .int v_signs, .ref a_sign, .int v_many, .ref a_kept, .ref a_ended, .ref a_cell, .ref a_loss, .long v_left, .long v_rime, .long v_frost, .int v_began, .int v_last, .int v_rounds, .ref a_read, .ref a_times, .ref a_gains, .int (((v_seed * (75 : Int32)) + (74 : Int32)) - ((v_seed * (75 : Int32)) + (74 : Int32)) / (65537 : Int32) * (65537 : Int32)), .ref a_image, .ref a_isKept])), (a_rows, .inl (cI, 20, .inl v_rows))] := hD
        refine lv_iload_n hx hb dX7_drawn_65 rfl (lv_at hl 0 rfl) ?_
        exact hret _ _ _ _ _ _ dX7_drawn_66 (by simp only [X7_drawn, if_pos c42]) (by simp only [X7_drawn_o_seed, if_pos c42]) hP hD hS
      · refine lv_iload_n hx hb dX7_drawn_45 rfl (lv_at hl 2 rfl) ?_
        refine lv_aload_n hx hb dX7_drawn_46 rfl (lv_at hl 0 rfl) ?_
        refine va_get (D := D) (ci := 7) (v := .ref a_rows) (C := RX7) (T := TX7) (N := 23) hx hb hts iX7 hown hK hP 0 rfl rfl 2 (by decide) f16 (fun _ h9 => h9) rfl dX7_drawn_47 ?_
        refine lv_bipush (v := 10) hx hb dX7_drawn_50 (by decide) ?_
        refine lv_iload_n hx hb dX7_drawn_52 rfl (lv_at hl 1 rfl) ?_
        refine lv_imul hx hb dX7_drawn_53 ?_
        refine W.eq (g2 := F0 m 54 ls (.int (nI (10 * p_p.toNatClampNeg)) :: [.ref a_rows, .int x30_l2])) (congrArg (fun z9 : Int32 => F0 m 54 ls (.int z9 :: [.ref a_rows, .int x30_l2])) (fx_mulN (x := (10 : Int32)) (y := p_p) (a := 10) (b := p_p.toNatClampNeg) rfl e_p)) ?_
        refine lv_iload_n hx hb dX7_drawn_54 rfl (lv_at hl 3 rfl) ?_
        refine lv_iadd hx hb dX7_drawn_55 ?_
        refine W.eq (g2 := F0 m 56 ls (.int (nI ((10 * p_p.toNatClampNeg) + j30)) :: [.ref a_rows, .int x30_l2])) (congrArg (fun z9 : Int32 => F0 m 56 ls (.int z9 :: [.ref a_rows, .int x30_l2])) (fx_addN (x := nI (10 * p_p.toNatClampNeg)) (y := nI j30) (a := (10 * p_p.toNatClampNeg)) (b := j30) rfl rfl)) ?_
        refine fx_iald hx hb hK hP 1 0 rfl rfl ((10 * p_p.toNatClampNeg) + j30) rfl (by omega) (by decide) dX7_drawn_56 ?_
        refine lv_isub hx hb dX7_drawn_57 ?_
        refine lv_istore_n (lv' := [(2, .int (x30_l2 - (v_rows ((10 * p_p.toNatClampNeg) + j30)))), (0, .ref a_this), (1, .int p_p), (3, .int (nI j30))]) hx hb dX7_drawn_58 rfl hl (by decide) rfl (fun ls hl => ?_)
        refine lv_iinc (v := nI (j30 + 1)) (lv' := [(3, .int (nI (j30 + 1))), (2, .int (x30_l2 - (v_rows ((10 * p_p.toNatClampNeg) + j30)))), (0, .ref a_this), (1, .int p_p)]) hx hb dX7_drawn_59 hl (k := 3) rfl (fx_inc _ 1) (by decide) rfl (fun ls hl => ?_)
        refine lv_goto (tgt := 30) hx hb dX7_drawn_62 (by decide) ?_
        exact ih30 (j30 + 1) (x30_l2 - (v_rows ((10 * p_p.toNatClampNeg) + j30))) (by omega) (dr_back (hd _ (by omega)) hr30 c42) (by rw [← hF30]; simp only [X7_drawn_L30, if_neg c42]) _ _ hP hD hS ls (lv_sub hl [2, 3, 1, 0] rfl)
  exact L30 11 0 ((((v_seed * (75 : Int32)) + (74 : Int32)) - ((v_seed * (75 : Int32)) + (74 : Int32)) / (65537 : Int32) * (65537 : Int32)) - (((v_seed * (75 : Int32)) + (74 : Int32)) - ((v_seed * (75 : Int32)) + (74 : Int32)) / (65537 : Int32) * (65537 : Int32)) / (X7_sumOf v_rows p_p) * (X7_sumOf v_rows p_p)) (by omega) (dr_ent hd hp0 hp1 hsum hsd) rfl _ _ hP hD hS ls (lv_sub hl [2, 3, 1, 0] rfl)
