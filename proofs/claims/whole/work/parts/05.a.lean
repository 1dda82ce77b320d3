def X7_in_m15_s0 (p_v : Int32) (p_lo : Int32) (p_hi : Int32) : Int32 := (if p_v < p_lo then (0 : Int32) else (if p_hi < p_v then (0 : Int32) else (1 : Int32)))
def X7_in (p_v : Int32) (p_lo : Int32) (p_hi : Int32) : Int32 := (X7_in_m15_s0 p_v p_lo p_hi)
abbrev rX7_in : Room := { frames := 0, cells := 0, slots := 0, locals := 0 }
theorem b_X7_in (p_v : Int32) (p_lo : Int32) (p_hi : Int32) : fx_b (X7_in p_v p_lo p_hi) := by
  unfold X7_in
  try unfold X7_in_m15_s0
  repeat' split
  all_goals first | exact Or.inl rfl | exact Or.inr rfl
set_option maxHeartbeats 8000000 in
set_option maxRecDepth 100000 in
theorem k_X7_in (l : Launch) (G : fxE) (hG : fxGood G) (D : va_G) (cI cJ cZ cH : ClassId) (p_v : Int32) (p_lo : Int32) (p_hi : Int32) : MetI l yX7_in wsX7_in rX7_in G D (tyL cI cJ cZ cH) [.int p_v, .int p_lo, .int p_hi] [] (X7_in p_v p_lo p_hi) [] := by
  refine fx_startI (cc := cX7_in) (n := 3) (rt := .boolean) (plainFor_of_name (by decide)) rfl (Nat.le_of_ble_eq_true rfl) (fx_nb (b_X7_in p_v p_lo p_hi)) ?_
  intro p e s m args below meth c A Q ls hx hb hml hown hts hA hGs hK hP hD hS hl hret
  have hl : lv_has ls 3 [(0, .int p_v), (1, .int p_lo), (2, .int p_hi)] := hl
  have C15 : ∀ (x15_s0 : Int32), (X7_in_m15_s0 p_v p_lo p_hi) = x15_s0 → ∀ (H : Heap) (locs : List Loc), va_P D vwCl [] H → va_D A [] → va_S A s.heap H locs → ∀ (ls : Array Slot), lv_has ls 3 [] → W p l e rX7_in s m args below meth c H locs 0 0 Q (F0 m 15 ls [.int x15_s0]) := by
    intro x15_s0 hx15_s0 H locs hP hD hS ls hl
    subst hx15_s0
    exact hret _ _ _ _ _ _ dX7_in_15 (by simp only [X7_in]) rfl hP hD hS
  refine lv_iload_n hx hb dX7_in_0 rfl (lv_at hl 0 rfl) ?_
  refine lv_iload_n hx hb dX7_in_1 rfl (lv_at hl 1 rfl) ?_
  refine lv_icmp_lt (tgt := 14) hx hb dX7_in_2 (by decide) (fun c2 => ?_) (fun c2 => ?_)
  · refine lv_iconst (v := 0) hx hb dX7_in_14 (by decide) ?_
    exact C15 (0 : Int32) (by simp only [X7_in_m15_s0, if_pos c2]) _ _ hP hD hS ls (lv_sub hl [] rfl)
  · refine lv_iload_n hx hb dX7_in_5 rfl (lv_at hl 0 rfl) ?_
    refine lv_iload_n hx hb dX7_in_6 rfl (lv_at hl 2 rfl) ?_
    refine lv_icmp_gt (tgt := 14) hx hb dX7_in_7 (by decide) (fun c7 => ?_) (fun c7 => ?_)
    · refine lv_iconst (v := 0) hx hb dX7_in_14 (by decide) ?_
      exact C15 (0 : Int32) (by simp only [X7_in_m15_s0, if_neg c2, if_pos c7]) _ _ hP hD hS ls (lv_sub hl [] rfl)
    · refine lv_iconst (v := 1) hx hb dX7_in_10 (by decide) ?_
      refine lv_goto (tgt := 15) hx hb dX7_in_11 (by decide) ?_
      exact C15 (1 : Int32) (by simp only [X7_in_m15_s0, if_neg c2, if_neg c7]) _ _ hP hD hS ls (lv_sub hl [] rfl)

theorem fy_wi {x lo hi : Int32} (h : ¬ X7_in x lo hi = 0) : lo ≤ x ∧ x ≤ hi := by
  unfold X7_in X7_in_m15_s0 at h
  split at h
  · exact absurd rfl h
  · split at h
    · exact absurd rfl h
    · rename_i h1 h2
      exact ⟨Int32.not_lt.mp h1, Int32.not_lt.mp h2⟩
theorem fy_in (x lo hi : Int32) : X7_in x lo hi = X6_within x lo hi := rfl
theorem fy_w1 {x : Int32} (h : ¬ X7_in x 0 1 = 0) : vp_in x 2 := fx_w1 h
theorem fy_w3 {x : Int32} (h : ¬ X7_in x 0 3 = 0) : vp_in x 4 := fx_w3 h
theorem fy_w10 {x : Int32} (h : ¬ X7_in x 0 10 = 0) : vp_in x 11 := fx_nn (N := 10) (n := 10) rfl (fy_wi h).1 (fy_wi h).2
theorem fy_lt {x : Int32} {n : Nat} (h : vp_in x n) : x.toNatClampNeg < n := by
  unfold vp_in at h
  omega
theorem fx_mu2 {r u : Int32} {n : Nat} (hm : (u.toInt - r.toInt).toNat < n + 1) (h : ¬ u ≤ r) : (u.toInt - (r + 1).toInt).toNat < n := by
  have a := Int32.lt_iff_toInt_lt.mp (Int32.not_le.mp h)
  have z1 : (1 : Int32).toInt = 1 := rfl
  have b := r.le_toInt
  have b2 := u.toInt_lt
  have e : (r + 1).toInt = r.toInt + 1 := by
    rw [Int32.toInt_add, z1]
    exact Int.bmod_eq_of_le (by omega) (by omega)
  rw [e]
  omega
theorem fy_sg {x : Int32} (h0 : 0 ≤ x) (h1 : x ≤ 60) (h : ¬ x = 60) : vp_in x 60 := by
  rw [vp_in_iff]
  have a := Int32.le_iff_toInt_le.mp h0
  have b := Int32.le_iff_toInt_le.mp h1
  have z : (0 : Int32).toInt = 0 := rfl
  have z2 : (60 : Int32).toInt = 60 := rfl
  rw [z] at a
  rw [z2] at b
  have : x.toInt ≠ 60 := fun h9 => h (Int32.toInt_inj.mp (h9.trans z2.symm))
  omega

def X7_isTwo (p_v : Int32) : Int32 := (X7_in p_v (0 : Int32) (1 : Int32))
abbrev rX7_isTwo : Room := { frames := 1, cells := 0, slots := 0, locals := 22 }
theorem b_X7_isTwo (p_v : Int32) : fx_b (X7_isTwo p_v) := by
  unfold X7_isTwo
  try unfold X7_isTwo
  repeat' split
  all_goals first | exact Or.inl rfl | exact Or.inr rfl | apply b_X7_in
set_option maxHeartbeats 8000000 in
set_option maxRecDepth 100000 in
theorem k_X7_isTwo (l : Launch) (G : fxE) (hG : fxGood G) (D : va_G) (cI cJ cZ cH : ClassId) (p_v : Int32) : MetI l yX7_isTwo wsX7_isTwo rX7_isTwo G D (tyL cI cJ cZ cH) [.int p_v] [] (X7_isTwo p_v) [] := by
  refine fx_startI (cc := cX7_isTwo) (n := 1) (rt := .boolean) (plainFor_of_name (by decide)) rfl (Nat.le_of_ble_eq_true rfl) (fx_nb (b_X7_isTwo p_v)) ?_
  intro p e s m args below meth c A Q ls hx hb hml hown hts hA hGs hK hP hD hS hl hret
  have hl : lv_has ls 1 [(0, .int p_v)] := hl
  refine lv_iload_n hx hb dX7_isTwo_0 rfl (lv_at hl 0 rfl) ?_
  refine lv_iconst (v := 0) hx hb dX7_isTwo_1 (by decide) ?_
  refine lv_iconst (v := 1) hx hb dX7_isTwo_2 (by decide) ?_
  refine fx_callSI (As := [.int p_v, .int (0 : Int32), .int (1 : Int32)]) (rest := []) (wr := []) ⟨hx, hb, hml, hown, hts⟩ hG hGs (k_X7_in l G hG D cI cJ cZ cH p_v (0 : Int32) (1 : Int32)  ) (va_cwS 3 hts gX7_isTwo_X7_in rfl rfl rfl (by decide +kernel) ⟨by decide, by decide⟩) hK hP hD hS hA [] [] rfl rfl (by decide) (by decide) (by decide) rfl rfl hl.1 (Nat.le_of_ble_eq_true rfl) dX7_isTwo_3 (Nat.zero_le _) (Nat.zero_le _) (fun H locs hP hD hS => ?_)
  have hP : va_P D vwCl [] H := hP
  have hD : va_D A [] := hD
  exact hret _ _ _ _ _ _ dX7_isTwo_6 (by simp only [X7_isTwo]) rfl hP hD hS

def X7_isMeaning (p_v : Int32) : Int32 := (X7_in p_v (0 : Int32) (2 : Int32))
abbrev rX7_isMeaning : Room := { frames := 1, cells := 0, slots := 0, locals := 22 }
theorem b_X7_isMeaning (p_v : Int32) : fx_b (X7_isMeaning p_v) := by
  unfold X7_isMeaning
  try unfold X7_isMeaning
  repeat' split
  all_goals first | exact Or.inl rfl | exact Or.inr rfl | apply b_X7_in
set_option maxHeartbeats 8000000 in
set_option maxRecDepth 100000 in
theorem k_X7_isMeaning (l : Launch) (G : fxE) (hG : fxGood G) (D : va_G) (cI cJ cZ cH : ClassId) (p_v : Int32) : MetI l yX7_isMeaning wsX7_isMeaning rX7_isMeaning G D (tyL cI cJ cZ cH) [.int p_v] [] (X7_isMeaning p_v) [] := by
  refine fx_startI (cc := cX7_isMeaning) (n := 1) (rt := .boolean) (plainFor_of_name (by decide)) rfl (Nat.le_of_ble_eq_true rfl) (fx_nb (b_X7_isMeaning p_v)) ?_
  intro p e s m args below meth c A Q ls hx hb hml hown hts hA hGs hK hP hD hS hl hret
  have hl : lv_has ls 1 [(0, .int p_v)] := hl
  refine lv_iload_n hx hb dX7_isMeaning_0 rfl (lv_at hl 0 rfl) ?_
  refine lv_iconst (v := 0) hx hb dX7_isMeaning_1 (by decide) ?_
  refine lv_iconst (v := 2) hx hb dX7_isMeaning_2 (by decide) ?_
  refine fx_callSI (As := [.int p_v, .int (0 : Int32), .int (2 : Int32)]) (rest := []) (wr := []) ⟨hx, hb, hml, hown, hts⟩ hG hGs (k_X7_in l G hG D cI cJ cZ cH p_v (0 : Int32) (2 : Int32)  ) (va_cwS 3 hts gX7_isMeaning_X7_in rfl rfl rfl (by decide +kernel) ⟨by decide, by decide⟩) hK hP hD hS hA [] [] rfl rfl (by decide) (by decide) (by decide) rfl rfl hl.1 (Nat.le_of_ble_eq_true rfl) dX7_isMeaning_3 (Nat.zero_le _) (Nat.zero_le _) (fun H locs hP hD hS => ?_)
  have hP : va_P D vwCl [] H := hP
  have hD : va_D A [] := hD
  exact hret _ _ _ _ _ _ dX7_isMeaning_6 (by simp only [X7_isMeaning]) rfl hP hD hS

def X7_isDegree (p_v : Int32) : Int32 := (X7_in p_v (0 : Int32) (9 : Int32))
abbrev rX7_isDegree : Room := { frames := 1, cells := 0, slots := 0, locals := 22 }
theorem b_X7_isDegree (p_v : Int32) : fx_b (X7_isDegree p_v) := by
  unfold X7_isDegree
  try unfold X7_isDegree
  repeat' split
  all_goals first | exact Or.inl rfl | exact Or.inr rfl | apply b_X7_in
set_option maxHeartbeats 8000000 in
set_option maxRecDepth 100000 in
theorem k_X7_isDegree (l : Launch) (G : fxE) (hG : fxGood G) (D : va_G) (cI cJ cZ cH : ClassId) (p_v : Int32) : MetI l yX7_isDegree wsX7_isDegree rX7_isDegree G D (tyL cI cJ cZ cH) [.int p_v] [] (X7_isDegree p_v) [] := by
  refine fx_startI (cc := cX7_isDegree) (n := 1) (rt := .boolean) (plainFor_of_name (by decide)) rfl (Nat.le_of_ble_eq_true rfl) (fx_nb (b_X7_isDegree p_v)) ?_
  intro p e s m args below meth c A Q ls hx hb hml hown hts hA hGs hK hP hD hS hl hret
  have hl : lv_has ls 1 [(0, .int p_v)] := hl
  refine lv_iload_n hx hb dX7_isDegree_0 rfl (lv_at hl 0 rfl) ?_
  refine lv_iconst (v := 0) hx hb dX7_isDegree_1 (by decide) ?_
  refine lv_bipush (v := 9) hx hb dX7_isDegree_2 (by decide) ?_
  refine fx_callSI (As := [.int p_v, .int (0 : Int32), .int (9 : Int32)]) (rest := []) (wr := []) ⟨hx, hb, hml, hown, hts⟩ hG hGs (k_X7_in l G hG D cI cJ cZ cH p_v (0 : Int32) (9 : Int32)  ) (va_cwS 3 hts gX7_isDegree_X7_in rfl rfl rfl (by decide +kernel) ⟨by decide, by decide⟩) hK hP hD hS hA [] [] rfl rfl (by decide) (by decide) (by decide) rfl rfl hl.1 (Nat.le_of_ble_eq_true rfl) dX7_isDegree_4 (Nat.zero_le _) (Nat.zero_le _) (fun H locs hP hD hS => ?_)
  have hP : va_P D vwCl [] H := hP
  have hD : va_D A [] := hD
  exact hret _ _ _ _ _ _ dX7_isDegree_7 (by simp only [X7_isDegree]) rfl hP hD hS

def X7_firstOf (p_h : Int32) (p_c : Int32) : Int32 := (if p_c ≤ p_h then (if p_h ≤ p_c then (2 : Int32) else (1 : Int32)) else (0 : Int32))
abbrev rX7_firstOf : Room := { frames := 0, cells := 0, slots := 0, locals := 0 }
set_option maxHeartbeats 8000000 in
set_option maxRecDepth 100000 in
theorem k_X7_firstOf (l : Launch) (G : fxE) (hG : fxGood G) (D : va_G) (cI cJ cZ cH : ClassId) (p_h : Int32) (p_c : Int32) : MetI l yX7_firstOf wsX7_firstOf rX7_firstOf G D (tyL cI cJ cZ cH) [.int p_h, .int p_c] [] (X7_firstOf p_h p_c) [] := by
  refine fx_startI (cc := cX7_firstOf) (n := 2) (rt := .int) (plainFor_of_name (by decide)) rfl (Nat.le_of_ble_eq_true rfl) rfl ?_
  intro p e s m args below meth c A Q ls hx hb hml hown hts hA hGs hK hP hD hS hl hret
  have hl : lv_has ls 2 [(0, .int p_h), (1, .int p_c)] := hl
  refine lv_iload_n hx hb dX7_firstOf_0 rfl (lv_at hl 0 rfl) ?_
  refine lv_iload_n hx hb dX7_firstOf_1 rfl (lv_at hl 1 rfl) ?_
  refine lv_icmp_ge (tgt := 9) hx hb dX7_firstOf_2 (by decide) (fun c2 => ?_) (fun c2 => ?_)
  · refine lv_iload_n hx hb dX7_firstOf_9 rfl (lv_at hl 1 rfl) ?_
    refine lv_iload_n hx hb dX7_firstOf_10 rfl (lv_at hl 0 rfl) ?_
    refine lv_icmp_ge (tgt := 18) hx hb dX7_firstOf_11 (by decide) (fun c11 => ?_) (fun c11 => ?_)
    · refine lv_iconst (v := 2) hx hb dX7_firstOf_18 (by decide) ?_
      exact hret _ _ _ _ _ _ dX7_firstOf_19 (by simp only [X7_firstOf, if_pos c2, if_pos c11]) rfl hP hD hS
    · refine lv_iconst (v := 1) hx hb dX7_firstOf_14 (by decide) ?_
      refine lv_goto (tgt := 19) hx hb dX7_firstOf_15 (by decide) ?_
      exact hret _ _ _ _ _ _ dX7_firstOf_19 (by simp only [X7_firstOf, if_pos c2, if_neg c11]) rfl hP hD hS
  · refine lv_iconst (v := 0) hx hb dX7_firstOf_5 (by decide) ?_
    refine lv_goto (tgt := 19) hx hb dX7_firstOf_6 (by decide) ?_
    exact hret _ _ _ _ _ _ dX7_firstOf_19 (by simp only [X7_firstOf, if_neg c2]) rfl hP hD hS

def X7_far (p_w : Int64) : Int64 := (if p_w ≤ (400 : Int64) then ((400 : Int64) - p_w) else (p_w - (400 : Int64)))
abbrev rX7_far : Room := { frames := 0, cells := 0, slots := 0, locals := 0 }
set_option maxHeartbeats 8000000 in
set_option maxRecDepth 100000 in
theorem k_X7_far (l : Launch) (G : fxE) (hG : fxGood G) (D : va_G) (cI cJ cZ cH : ClassId) (p_w : Int64) : MetL l yX7_far wsX7_far rX7_far G D (tyL cI cJ cZ cH) [.long p_w] [] (X7_far p_w) [] := by
  refine fx_startL (cc := cX7_far) (n := 2) (plainFor_of_name (by decide)) rfl (Nat.le_of_ble_eq_true rfl) ?_
  intro p e s m args below meth c A Q ls hx hb hml hown hts hA hGs hK hP hD hS hl hret
  have hl : lv_has ls 2 [(0, .long p_w)] := hl
  have k80 := hts (.constantLong RX7 80 400) (by decide +kernel)
  refine lv_lload_n hx hb dX7_far_0 rfl (lv_at hl 0 rfl) ?_
  refine lv_ldc2 (v := 400) hx hb hown k80 dX7_far_1 ?_
  refine fx_lc_le (tgt := 16) hx hb dX7_far_4 dX7_far_5 (by decide) (fun c4 => ?_) (fun c4 => ?_)
  · refine lv_ldc2 (v := 400) hx hb hown k80 dX7_far_16 ?_
    refine lv_lload_n hx hb dX7_far_19 rfl (lv_at hl 0 rfl) ?_
    refine lv_lsub hx hb dX7_far_20 ?_
    exact hret _ _ _ _ _ _ dX7_far_21 (by simp only [X7_far, if_pos c4]) rfl hP hD hS
  · refine lv_lload_n hx hb dX7_far_8 rfl (lv_at hl 0 rfl) ?_
    refine lv_ldc2 (v := 400) hx hb hown k80 dX7_far_9 ?_
    refine lv_lsub hx hb dX7_far_12 ?_
    refine lv_goto (tgt := 21) hx hb dX7_far_13 (by decide) ?_
    exact hret _ _ _ _ _ _ dX7_far_21 (by simp only [X7_far, if_neg c4]) rfl hP hD hS

def X7_half (p_sum : Int64) : Int64 := (if (0 : Int64) ≤ p_sum then (p_sum / (2 : Int64)) else (if (p_sum - p_sum / (2 : Int64) * (2 : Int64)) = (0 : Int64) then (p_sum / (2 : Int64)) else ((p_sum / (2 : Int64)) - (1 : Int64))))
abbrev rX7_half : Room := { frames := 0, cells := 0, slots := 0, locals := 0 }
set_option maxHeartbeats 8000000 in
set_option maxRecDepth 100000 in
theorem k_X7_half (l : Launch) (G : fxE) (hG : fxGood G) (D : va_G) (cI cJ cZ cH : ClassId) (p_sum : Int64) : MetL l yX7_half wsX7_half rX7_half G D (tyL cI cJ cZ cH) [.long p_sum] [] (X7_half p_sum) [] := by
  refine fx_startL (cc := cX7_half) (n := 2) (plainFor_of_name (by decide)) rfl (Nat.le_of_ble_eq_true rfl) ?_
  intro p e s m args below meth c A Q ls hx hb hml hown hts hA hGs hK hP hD hS hl hret
  have hl : lv_has ls 2 [(0, .long p_sum)] := hl
  have k82 := hts (.constantLong RX7 82 2) (by decide +kernel)
  refine lv_lload_n hx hb dX7_half_0 rfl (lv_at hl 0 rfl) ?_
  refine lv_lconst (v := 0) hx hb dX7_half_1 (by decide) ?_
  refine fx_lc_ge (tgt := 16) hx hb dX7_half_2 dX7_half_3 (by decide) (fun c2 => ?_) (fun c2 => ?_)
  · refine lv_lload_n hx hb dX7_half_16 rfl (lv_at hl 0 rfl) ?_
    refine lv_ldc2 (v := 2) hx hb hown k82 dX7_half_17 ?_
    refine lv_ldiv hx hb dX7_half_20 (by decide) ?_
    refine lv_goto (tgt := 31) hx hb dX7_half_21 (by decide) ?_
    exact hret _ _ _ _ _ _ dX7_half_31 (by simp only [X7_half, if_pos c2]) rfl hP hD hS
  · refine lv_lload_n hx hb dX7_half_6 rfl (lv_at hl 0 rfl) ?_
    refine lv_ldc2 (v := 2) hx hb hown k82 dX7_half_7 ?_
    refine lv_lrem hx hb dX7_half_10 (by decide) ?_
    refine lv_lconst (v := 0) hx hb dX7_half_11 (by decide) ?_
    refine fx_lc_ne (tgt := 24) hx hb dX7_half_12 dX7_half_13 (by decide) (fun c12 => ?_) (fun c12 => ?_)
    · refine lv_lload_n hx hb dX7_half_24 rfl (lv_at hl 0 rfl) ?_
      refine lv_ldc2 (v := 2) hx hb hown k82 dX7_half_25 ?_
      refine lv_ldiv hx hb dX7_half_28 (by decide) ?_
      refine lv_lconst (v := 1) hx hb dX7_half_29 (by decide) ?_
      refine lv_lsub hx hb dX7_half_30 ?_
      exact hret _ _ _ _ _ _ dX7_half_31 (by simp only [X7_half, if_neg c2, if_neg c12]) rfl hP hD hS
    · refine lv_lload_n hx hb dX7_half_16 rfl (lv_at hl 0 rfl) ?_
      refine lv_ldc2 (v := 2) hx hb hown k82 dX7_half_17 ?_
      refine lv_ldiv hx hb dX7_half_20 (by decide) ?_
      refine lv_goto (tgt := 31) hx hb dX7_half_21 (by decide) ?_
      exact hret _ _ _ _ _ _ dX7_half_31 (by simp only [X7_half, if_neg c2, if_pos c12]) rfl hP hD hS

def X7_letter (p_s : Int32) : Int32 := (if p_s = (115 : Int32) then (0 : Int32) else (if p_s = (114 : Int32) then (1 : Int32) else (if p_s = (116 : Int32) then (2 : Int32) else (if p_s = (110 : Int32) then (3 : Int32) else ((-6) : Int32)))))
abbrev rX7_letter : Room := { frames := 0, cells := 0, slots := 0, locals := 0 }
set_option maxHeartbeats 8000000 in
set_option maxRecDepth 100000 in
theorem k_X7_letter (l : Launch) (G : fxE) (hG : fxGood G) (D : va_G) (cI cJ cZ cH : ClassId) (p_s : Int32) : MetI l yX7_letter wsX7_letter rX7_letter G D (tyL cI cJ cZ cH) [.int p_s] [] (X7_letter p_s) [] := by
  refine fx_startI (cc := cX7_letter) (n := 1) (rt := .int) (plainFor_of_name (by decide)) rfl (Nat.le_of_ble_eq_true rfl) rfl ?_
  intro p e s m args below meth c A Q ls hx hb hml hown hts hA hGs hK hP hD hS hl hret
  have hl : lv_has ls 1 [(0, .int p_s)] := hl
  refine lv_iload_n hx hb dX7_letter_0 rfl (lv_at hl 0 rfl) ?_
  refine lv_bipush (v := 115) hx hb dX7_letter_1 (by decide) ?_
  refine lv_icmp_ne (tgt := 10) hx hb dX7_letter_3 (by decide) (fun c3 => ?_) (fun c3 => ?_)
  · refine lv_iload_n hx hb dX7_letter_10 rfl (lv_at hl 0 rfl) ?_
    refine lv_bipush (v := 114) hx hb dX7_letter_11 (by decide) ?_
    refine lv_icmp_ne (tgt := 20) hx hb dX7_letter_13 (by decide) (fun c13 => ?_) (fun c13 => ?_)
    · refine lv_iload_n hx hb dX7_letter_20 rfl (lv_at hl 0 rfl) ?_
      refine lv_bipush (v := 116) hx hb dX7_letter_21 (by decide) ?_
      refine lv_icmp_ne (tgt := 30) hx hb dX7_letter_23 (by decide) (fun c23 => ?_) (fun c23 => ?_)
      · refine lv_iload_n hx hb dX7_letter_30 rfl (lv_at hl 0 rfl) ?_
        refine lv_bipush (v := 110) hx hb dX7_letter_31 (by decide) ?_
        refine lv_icmp_ne (tgt := 40) hx hb dX7_letter_33 (by decide) (fun c33 => ?_) (fun c33 => ?_)
        · refine lv_bipush (v := (-6)) hx hb dX7_letter_40 (by decide) ?_
          exact hret _ _ _ _ _ _ dX7_letter_42 (by simp only [X7_letter, if_neg c3, if_neg c13, if_neg c23, if_neg c33]) rfl hP hD hS
        · refine lv_iconst (v := 3) hx hb dX7_letter_36 (by decide) ?_
          refine lv_goto (tgt := 42) hx hb dX7_letter_37 (by decide) ?_
          exact hret _ _ _ _ _ _ dX7_letter_42 (by simp only [X7_letter, if_neg c3, if_neg c13, if_neg c23, if_pos c33]) rfl hP hD hS
      · refine lv_iconst (v := 2) hx hb dX7_letter_26 (by decide) ?_
        refine lv_goto (tgt := 42) hx hb dX7_letter_27 (by decide) ?_
        exact hret _ _ _ _ _ _ dX7_letter_42 (by simp only [X7_letter, if_neg c3, if_neg c13, if_pos c23]) rfl hP hD hS
    · refine lv_iconst (v := 1) hx hb dX7_letter_16 (by decide) ?_
      refine lv_goto (tgt := 42) hx hb dX7_letter_17 (by decide) ?_
      exact hret _ _ _ _ _ _ dX7_letter_42 (by simp only [X7_letter, if_neg c3, if_pos c13]) rfl hP hD hS
  · refine lv_iconst (v := 0) hx hb dX7_letter_6 (by decide) ?_
    refine lv_goto (tgt := 42) hx hb dX7_letter_7 (by decide) ?_
    exact hret _ _ _ _ _ _ dX7_letter_42 (by simp only [X7_letter, if_pos c3]) rfl hP hD hS

def X7_end (p_s : Int32) : Int32 := (if p_s = (62 : Int32) then (0 : Int32) else (if p_s = (60 : Int32) then (1 : Int32) else (if p_s = (61 : Int32) then (2 : Int32) else ((-6) : Int32))))
abbrev rX7_end : Room := { frames := 0, cells := 0, slots := 0, locals := 0 }
set_option maxHeartbeats 8000000 in
set_option maxRecDepth 100000 in
theorem k_X7_end (l : Launch) (G : fxE) (hG : fxGood G) (D : va_G) (cI cJ cZ cH : ClassId) (p_s : Int32) : MetI l yX7_end wsX7_end rX7_end G D (tyL cI cJ cZ cH) [.int p_s] [] (X7_end p_s) [] := by
  refine fx_startI (cc := cX7_end) (n := 1) (rt := .int) (plainFor_of_name (by decide)) rfl (Nat.le_of_ble_eq_true rfl) rfl ?_
  intro p e s m args below meth c A Q ls hx hb hml hown hts hA hGs hK hP hD hS hl hret
  have hl : lv_has ls 1 [(0, .int p_s)] := hl
  refine lv_iload_n hx hb dX7_end_0 rfl (lv_at hl 0 rfl) ?_
  refine lv_bipush (v := 62) hx hb dX7_end_1 (by decide) ?_
  refine lv_icmp_ne (tgt := 10) hx hb dX7_end_3 (by decide) (fun c3 => ?_) (fun c3 => ?_)
  · refine lv_iload_n hx hb dX7_end_10 rfl (lv_at hl 0 rfl) ?_
    refine lv_bipush (v := 60) hx hb dX7_end_11 (by decide) ?_
    refine lv_icmp_ne (tgt := 20) hx hb dX7_end_13 (by decide) (fun c13 => ?_) (fun c13 => ?_)
    · refine lv_iload_n hx hb dX7_end_20 rfl (lv_at hl 0 rfl) ?_
      refine lv_bipush (v := 61) hx hb dX7_end_21 (by decide) ?_
      refine lv_icmp_ne (tgt := 30) hx hb dX7_end_23 (by decide) (fun c23 => ?_) (fun c23 => ?_)
      · refine lv_bipush (v := (-6)) hx hb dX7_end_30 (by decide) ?_
        exact hret _ _ _ _ _ _ dX7_end_32 (by simp only [X7_end, if_neg c3, if_neg c13, if_neg c23]) rfl hP hD hS
      · refine lv_iconst (v := 2) hx hb dX7_end_26 (by decide) ?_
        refine lv_goto (tgt := 32) hx hb dX7_end_27 (by decide) ?_
        exact hret _ _ _ _ _ _ dX7_end_32 (by simp only [X7_end, if_neg c3, if_neg c13, if_pos c23]) rfl hP hD hS
    · refine lv_iconst (v := 1) hx hb dX7_end_16 (by decide) ?_
      refine lv_goto (tgt := 32) hx hb dX7_end_17 (by decide) ?_
      exact hret _ _ _ _ _ _ dX7_end_32 (by simp only [X7_end, if_neg c3, if_pos c13]) rfl hP hD hS
  · refine lv_iconst (v := 0) hx hb dX7_end_6 (by decide) ?_
    refine lv_goto (tgt := 32) hx hb dX7_end_7 (by decide) ?_
    exact hret _ _ _ _ _ _ dX7_end_32 (by simp only [X7_end, if_pos c3]) rfl hP hD hS

def X7_layRow_L7 (v_rows : Nat → Int32) (p_p : Int32) (p_row : Int64) : Nat → Int64 × (Nat → Int32)
  | 0 => (p_row, v_rows)
  | j7 + 1 => (((X7_layRow_L7 v_rows p_p p_row j7).1 / (10 : Int64)), (upd (X7_layRow_L7 v_rows p_p p_row j7).2 ((10 * p_p.toNatClampNeg) + (9 - j7)) (((X7_layRow_L7 v_rows p_p p_row j7).1 - (X7_layRow_L7 v_rows p_p p_row j7).1 / (10 : Int64) * (10 : Int64)).toInt32)))
def X7_layRow_o_rows (v_rows : Nat → Int32) (p_p : Int32) (p_row : Int64) : Nat → Int32 := ((X7_layRow_L7 v_rows p_p p_row 10).2)
abbrev rX7_layRow : Room := { frames := 0, cells := 0, slots := 0, locals := 0 }
theorem n_X7_layRow_X7 : ∀ w ∈ wsX70, w ∈ wsX7_layRow := by decide +kernel
set_option maxHeartbeats 8000000 in
set_option maxRecDepth 100000 in
theorem k_X7_layRow (l : Launch) (G : fxE) (hG : fxGood G) (D : va_G) (cI cJ cZ cH : ClassId) (a_start a_mass a_rows a_told a_sign a_kept a_ended a_cell a_loss a_read a_times a_gains a_image a_isKept a_this : Nat) (v_signs : Int32) (v_many : Int32) (v_left : Int64) (v_rime : Int64) (v_frost : Int64) (v_began : Int32) (v_last : Int32) (v_rounds : Int32) (v_seed : Int32) (v_rows : Nat → Int32) (p_p : Int32) (p_row : Int64) (hp0 : 0 ≤ p_p) (hp1 : p_p ≤ 1) : MetV l yX7_layRow wsX7_layRow rX7_layRow G D (tyL cI cJ cZ cH) [.ref a_this, .int p_p, .long p_row] [(a_this, .inr (7, [.ref a_start, .ref a_mass, .ref a_rows, .ref a_told, .int v_signs, .ref a_sign, .int v_many, .ref a_kept, .ref a_ended, .ref a_cell, .ref a_loss, .long v_left, .long v_rime, .long v_frost, .int v_began, .int v_last, .int v_rounds, .ref a_read, .ref a_times, .ref a_gains, .int v_seed, .ref a_image, .ref a_isKept])), (a_rows, .inl (cI, 20, .inl v_rows))] [(a_this, .inr (7, [.ref a_start, .ref a_mass, .ref a_rows, .ref a_told, .int v_signs, .ref a_sign, .int v_many, .ref a_kept, .ref a_ended, .ref a_cell, .ref a_loss, .long v_left, .long v_rime, .long v_frost, .int v_began, .int v_last, .int v_rounds, .ref a_read, .ref a_times, .ref a_gains, .int v_seed, .ref a_image, .ref a_isKept])), (a_rows, .inl (cI, 20, .inl (X7_layRow_o_rows v_rows p_p p_row)))] := by
  refine fx_startV (cc := cX7_layRow) (n := 7) (plainFor_of_name (by decide)) rfl (Nat.le_of_ble_eq_true rfl) ?_
  intro p e s m args below meth c A Q ls hx hb hml hown hts hA hGs hK hP hD hS hl hret
  have hl : lv_has ls 7 [(0, .ref a_this), (1, .int p_p), (2, .long p_row)] := hl
  have iX7 := n_X7_layRow_X7
  have f16 := hts (.fieldLink RX7 16 "FrozeFirstModel" "rows" "[I") (by decide +kernel)
  have k64 := hts (.constantLong RX7 64 10) (by decide +kernel)
  have e_p := fx_tn hp0
  have b_p := fx_tb (N := 1) (n := 1) rfl (by decide) hp0 hp1
  refine lv_lload_n hx hb dX7_layRow_0 rfl (lv_at hl 2 rfl) ?_
  refine lv_lstore (lv' := [(4, .long p_row), (0, .ref a_this), (1, .int p_p), (2, .long p_row)]) hx hb dX7_layRow_1 hl (by decide) rfl (fun ls hl => ?_)
  refine lv_bipush (v := 9) hx hb dX7_layRow_3 (by decide) ?_
  refine lv_istore (lv' := [(6, .int (9 : Int32)), (4, .long p_row), (0, .ref a_this), (1, .int p_p), (2, .long p_row)]) hx hb dX7_layRow_5 hl (by decide) rfl (fun ls hl => ?_)
  have L7 : ∀ (n j7 : Nat) (x7_l4 : Int64) (x7_rows : Nat → Int32), j7 ≤ 10 → 10 + 1 ≤ j7 + n → X7_layRow_L7 v_rows p_p p_row j7 = (x7_l4, x7_rows) → ∀ (H : Heap) (locs : List Loc), va_P D vwCl [(a_this, .inr (7, [.ref a_start, .ref a_mass, .ref a_rows, .ref a_told, .int v_signs, .ref a_sign, .int v_many, .ref a_kept, .ref a_ended, .ref a_cell, .ref a_loss, .long v_left, .long v_rime, .long v_frost, .int v_began, .int v_last, .int v_rounds, .ref a_read, .ref a_times, .ref a_gains, .int v_seed, .ref a_image, .ref a_isKept])), (a_rows, .inl (cI, 20, .inl x7_rows))] H → va_D A [(a_this, .inr (7, [.ref a_start, .ref a_mass, .ref a_rows, .ref a_told, .int v_signs, .ref a_sign, .int v_many, .ref a_kept, .ref a_ended, .ref a_cell, .ref a_loss, .long v_left, .long v_rime, .long v_frost, .int v_began, .int v_last, .int v_rounds, .ref a_read, .ref a_times, .ref a_gains, .int v_seed, .ref a_image, .ref a_isKept])), (a_rows, .inl (cI, 20, .inl x7_rows))] → va_S A s.heap H locs → ∀ (ls : Array Slot), lv_has ls 7 [(0, .ref a_this), (1, .int p_p), (4, .long x7_l4), (6, .int (fx_dn 9 j7))] → W p l e rX7_layRow s m args below meth c H locs 0 0 Q (F0 m 7 ls []) := by
    intro n
    induction n with
    | zero => intro j7 x7_l4 x7_rows h1 h2; exact absurd h2 (by omega)
    | succ n ih7 =>
      intro j7 x7_l4 x7_rows hj7 hn7  hx7 H locs hP hD hS ls hl
      refine lv_iload hx hb dX7_layRow_7 (lv_at hl 3 rfl) ?_
      refine lv_if_lt (tgt := 45) hx hb dX7_layRow_9 (by decide) (fun c9 => ?_) (fun c9 => ?_)
      · have n9 : 9 < j7 := (fx_dn_lt (by decide) (by omega)).mp c9
        have e7 : 10 = j7 := by omega
        subst e7
        have q7_0 : x7_l4 = (X7_layRow_L7 v_rows p_p p_row 10).1 := by rw [hx7]
        have q7_1 : x7_rows = (X7_layRow_L7 v_rows p_p p_row 10).2 := by rw [hx7]
        subst q7_0
        subst q7_1
        have hl := lv_sub (l' := []) hl [] rfl
        have hP : va_P D vwCl [(a_this, .inr (7, [.ref a_start, .ref a_mass, .ref a_rows, .ref a_told, .int v_signs, .ref a_sign, .int v_many, .ref a_kept, .ref a_ended, .ref a_cell, .ref a_loss, .long v_left, .long v_rime, .long v_frost, .int v_began, .int v_last, .int v_rounds, .ref a_read, .ref a_times, .ref a_gains, .int v_seed, .ref a_image, .ref a_isKept])), (a_rows, .inl (cI, 20, .inl ((X7_layRow_L7 v_rows p_p p_row 10).2)))] H := hP
        have hD : va_D A [(a_this, .inr (7, [.ref a_start, .ref a_mass, .ref a_rows, .ref a_told, .int v_signs, .ref a_sign, .int v_many, .ref a_kept, .ref a_ended, .ref a_cell, .ref a_loss, .long v_left, .long v_rime, .long v_frost, .int v_began, .int v_last, .int v_rounds, .ref a_read, .ref a_times, .ref a_gains, .int v_seed, .ref a_image, .ref a_isKept])), (a_rows, .inl (cI, 20, .inl ((X7_layRow_L7 v_rows p_p p_row 10).2)))] := hD
        exact hret _ _ _ _ _ dX7_layRow_45 (by simp only [X7_layRow_o_rows, if_pos c9]) hP hD hS
      · have n9 : ¬ (9 < j7) := fun h9 => c9 ((fx_dn_lt (by decide) (by omega)).mpr h9)
        refine lv_aload_n hx hb dX7_layRow_12 rfl (lv_at hl 0 rfl) ?_
        refine va_get (D := D) (ci := 7) (v := .ref a_rows) (C := RX7) (T := TX7) (N := 23) hx hb hts iX7 hown hK hP 0 rfl rfl 2 (by decide) f16 (fun _ h9 => h9) rfl dX7_layRow_13 ?_
        refine lv_bipush (v := 10) hx hb dX7_layRow_16 (by decide) ?_
        refine lv_iload_n hx hb dX7_layRow_18 rfl (lv_at hl 1 rfl) ?_
        refine lv_imul hx hb dX7_layRow_19 ?_
        refine W.eq (g2 := F0 m 20 ls (.int (nI (10 * p_p.toNatClampNeg)) :: [.ref a_rows])) (congrArg (fun z9 : Int32 => F0 m 20 ls (.int z9 :: [.ref a_rows])) (fx_mulN (x := (10 : Int32)) (y := p_p) (a := 10) (b := p_p.toNatClampNeg) rfl e_p)) ?_
        refine lv_iload hx hb dX7_layRow_20 (lv_at hl 3 rfl) ?_
        refine lv_iadd hx hb dX7_layRow_22 ?_
        refine W.eq (g2 := F0 m 23 ls (.int (nI ((10 * p_p.toNatClampNeg) + (9 - j7))) :: [.ref a_rows])) (congrArg (fun z9 : Int32 => F0 m 23 ls (.int z9 :: [.ref a_rows])) (fx_addN (x := nI (10 * p_p.toNatClampNeg)) (y := fx_dn 9 j7) (a := (10 * p_p.toNatClampNeg)) (b := (9 - j7)) rfl (fx_dn_nat (by omega)))) ?_
        refine lv_lload hx hb dX7_layRow_23 (lv_at hl 2 rfl) ?_
        refine lv_ldc2 (v := 10) hx hb hown k64 dX7_layRow_25 ?_
        refine lv_lrem hx hb dX7_layRow_28 (by decide) ?_
        refine lv_l2i hx hb dX7_layRow_29 rfl ?_
        refine fx_iast hx hb hK hP hD hS 1 0 rfl rfl ((10 * p_p.toNatClampNeg) + (9 - j7)) rfl (by omega) (by decide) dX7_layRow_30 (fun H locs hP hD hS => ?_)
        have hP : va_P D vwCl [(a_this, .inr (7, [.ref a_start, .ref a_mass, .ref a_rows, .ref a_told, .int v_signs, .ref a_sign, .int v_many, .ref a_kept, .ref a_ended, .ref a_cell, .ref a_loss, .long v_left, .long v_rime, .long v_frost, .int v_began, .int v_last, .int v_rounds, .ref a_read, .ref a_times, .ref a_gains, .int v_seed, .ref a_image, .ref a_isKept])), (a_rows, .inl (cI, 20, .inl (upd x7_rows ((10 * p_p.toNatClampNeg) + (9 - j7)) ((x7_l4 - x7_l4 / (10 : Int64) * (10 : Int64)).toInt32))))] H := hP
        have hD : va_D A [(a_this, .inr (7, [.ref a_start, .ref a_mass, .ref a_rows, .ref a_told, .int v_signs, .ref a_sign, .int v_many, .ref a_kept, .ref a_ended, .ref a_cell, .ref a_loss, .long v_left, .long v_rime, .long v_frost, .int v_began, .int v_last, .int v_rounds, .ref a_read, .ref a_times, .ref a_gains, .int v_seed, .ref a_image, .ref a_isKept])), (a_rows, .inl (cI, 20, .inl (upd x7_rows ((10 * p_p.toNatClampNeg) + (9 - j7)) ((x7_l4 - x7_l4 / (10 : Int64) * (10 : Int64)).toInt32))))] := hD
        refine lv_lload hx hb dX7_layRow_31 (lv_at hl 2 rfl) ?_
        refine lv_ldc2 (v := 10) hx hb hown k64 dX7_layRow_33 ?_
        refine lv_ldiv hx hb dX7_layRow_36 (by decide) ?_
        refine lv_lstore (lv' := [(4, .long (x7_l4 / (10 : Int64))), (0, .ref a_this), (1, .int p_p), (6, .int (fx_dn 9 j7))]) hx hb dX7_layRow_37 hl (by decide) rfl (fun ls hl => ?_)
        refine lv_iinc (v := fx_dn 9 (j7 + 1)) (lv' := [(6, .int (fx_dn 9 (j7 + 1))), (4, .long (x7_l4 / (10 : Int64))), (0, .ref a_this), (1, .int p_p)]) hx hb dX7_layRow_39 hl (k := 3) rfl (fx_dn_dec _ _) (by decide) rfl (fun ls hl => ?_)
        refine lv_goto (tgt := 7) hx hb dX7_layRow_42 (by decide) ?_
        exact ih7 (j7 + 1) (x7_l4 / (10 : Int64)) (upd x7_rows ((10 * p_p.toNatClampNeg) + (9 - j7)) ((x7_l4 - x7_l4 / (10 : Int64) * (10 : Int64)).toInt32)) (by omega) (by omega)  (by simp only [X7_layRow_L7, hx7, if_neg c9]) _ _ hP hD hS ls (lv_sub hl [2, 3, 1, 0] rfl)
  exact L7 (10 + 1) 0 p_row v_rows (by omega) (by omega)  rfl _ _ hP hD hS ls (lv_sub hl [2, 3, 1, 0] rfl)

def X7_sumOf_L4 (v_rows : Nat → Int32) (p_p : Int32) : Nat → (Int32)
  | 0 => (0 : Int32)
  | j4 + 1 => ((X7_sumOf_L4 v_rows p_p j4) + (v_rows ((10 * p_p.toNatClampNeg) + j4)))
def X7_sumOf (v_rows : Nat → Int32) (p_p : Int32) : Int32 := (X7_sumOf_L4 v_rows p_p 10)
abbrev rX7_sumOf : Room := { frames := 0, cells := 0, slots := 0, locals := 0 }
theorem n_X7_sumOf_X7 : ∀ w ∈ wsX70, w ∈ wsX7_sumOf := by decide +kernel
set_option maxHeartbeats 8000000 in
set_option maxRecDepth 100000 in
theorem k_X7_sumOf (l : Launch) (G : fxE) (hG : fxGood G) (D : va_G) (cI cJ cZ cH : ClassId) (a_start a_mass a_rows a_told a_sign a_kept a_ended a_cell a_loss a_read a_times a_gains a_image a_isKept a_this : Nat) (v_signs : Int32) (v_many : Int32) (v_left : Int64) (v_rime : Int64) (v_frost : Int64) (v_began : Int32) (v_last : Int32) (v_rounds : Int32) (v_seed : Int32) (v_rows : Nat → Int32) (p_p : Int32) (hp0 : 0 ≤ p_p) (hp1 : p_p ≤ 1) : MetI l yX7_sumOf wsX7_sumOf rX7_sumOf G D (tyL cI cJ cZ cH) [.ref a_this, .int p_p] [(a_this, .inr (7, [.ref a_start, .ref a_mass, .ref a_rows, .ref a_told, .int v_signs, .ref a_sign, .int v_many, .ref a_kept, .ref a_ended, .ref a_cell, .ref a_loss, .long v_left, .long v_rime, .long v_frost, .int v_began, .int v_last, .int v_rounds, .ref a_read, .ref a_times, .ref a_gains, .int v_seed, .ref a_image, .ref a_isKept])), (a_rows, .inl (cI, 20, .inl v_rows))] (X7_sumOf v_rows p_p) [(a_this, .inr (7, [.ref a_start, .ref a_mass, .ref a_rows, .ref a_told, .int v_signs, .ref a_sign, .int v_many, .ref a_kept, .ref a_ended, .ref a_cell, .ref a_loss, .long v_left, .long v_rime, .long v_frost, .int v_began, .int v_last, .int v_rounds, .ref a_read, .ref a_times, .ref a_gains, .int v_seed, .ref a_image, .ref a_isKept])), (a_rows, .inl (cI, 20, .inl v_rows))] := by
  refine fx_startI (cc := cX7_sumOf) (n := 4) (rt := .int) (plainFor_of_name (by decide)) rfl (Nat.le_of_ble_eq_true rfl) rfl ?_
  intro p e s m args below meth c A Q ls hx hb hml hown hts hA hGs hK hP hD hS hl hret
  have hl : lv_has ls 4 [(0, .ref a_this), (1, .int p_p)] := hl
  have iX7 := n_X7_sumOf_X7
  have f16 := hts (.fieldLink RX7 16 "FrozeFirstModel" "rows" "[I") (by decide +kernel)
  have e_p := fx_tn hp0
  have b_p := fx_tb (N := 1) (n := 1) rfl (by decide) hp0 hp1
  refine lv_iconst (v := 0) hx hb dX7_sumOf_0 (by decide) ?_
  refine lv_istore_n (lv' := [(2, .int (0 : Int32)), (0, .ref a_this), (1, .int p_p)]) hx hb dX7_sumOf_1 rfl hl (by decide) rfl (fun ls hl => ?_)
  refine lv_iconst (v := 0) hx hb dX7_sumOf_2 (by decide) ?_
  refine lv_istore_n (lv' := [(3, .int (0 : Int32)), (2, .int (0 : Int32)), (0, .ref a_this), (1, .int p_p)]) hx hb dX7_sumOf_3 rfl hl (by decide) rfl (fun ls hl => ?_)
  have L4 : ∀ (n j4 : Nat) (x4_l2 : Int32), j4 ≤ 10 → 10 + 1 ≤ j4 + n → X7_sumOf_L4 v_rows p_p j4 = x4_l2 → ∀ (H : Heap) (locs : List Loc), va_P D vwCl [(a_this, .inr (7, [.ref a_start, .ref a_mass, .ref a_rows, .ref a_told, .int v_signs, .ref a_sign, .int v_many, .ref a_kept, .ref a_ended, .ref a_cell, .ref a_loss, .long v_left, .long v_rime, .long v_frost, .int v_began, .int v_last, .int v_rounds, .ref a_read, .ref a_times, .ref a_gains, .int v_seed, .ref a_image, .ref a_isKept])), (a_rows, .inl (cI, 20, .inl v_rows))] H → va_D A [(a_this, .inr (7, [.ref a_start, .ref a_mass, .ref a_rows, .ref a_told, .int v_signs, .ref a_sign, .int v_many, .ref a_kept, .ref a_ended, .ref a_cell, .ref a_loss, .long v_left, .long v_rime, .long v_frost, .int v_began, .int v_last, .int v_rounds, .ref a_read, .ref a_times, .ref a_gains, .int v_seed, .ref a_image, .ref a_isKept])), (a_rows, .inl (cI, 20, .inl v_rows))] → va_S A s.heap H locs → ∀ (ls : Array Slot), lv_has ls 4 [(0, .ref a_this), (1, .int p_p), (2, .int x4_l2), (3, .int (nI j4))] → W p l e rX7_sumOf s m args below meth c H locs 0 0 Q (F0 m 4 ls []) := by
    intro n
    induction n with
    | zero => intro j4 x4_l2 h1 h2; exact absurd h2 (by omega)
    | succ n ih4 =>
      intro j4 x4_l2 hj4 hn4  hx4 H locs hP hD hS ls hl
      refine lv_iload_n hx hb dX7_sumOf_4 rfl (lv_at hl 3 rfl) ?_
      refine lv_bipush (v := 10) hx hb dX7_sumOf_5 (by decide) ?_
      refine lv_icmp_ge (tgt := 30) hx hb dX7_sumOf_7 (by decide) (fun c7 => ?_) (fun c7 => ?_)
      · have n7 : 10 ≤ j4 := (fx_leN (x := (10 : Int32)) (y := (nI j4)) (a := 10) (b := j4) rfl rfl (by omega) (by omega)).mp c7
        have e4 : 10 = j4 := by omega
        subst e4
        subst hx4
        have hl := lv_sub (l' := [(2, .int (X7_sumOf_L4 v_rows p_p 10))]) hl [2] rfl
        have hP : va_P D vwCl [(a_this, .inr (7, [.ref a_start, .ref a_mass, .ref a_rows, .ref a_told, .int v_signs, .ref a_sign, .int v_many, .ref a_kept, .ref a_ended, .ref a_cell, .ref a_loss, .long v_left, .long v_rime, .long v_frost, .int v_began, .int v_last, .int v_rounds, .ref a_read, .ref a_times, .ref a_gains, .int v_seed, .ref a_image, .ref a_isKept])), (a_rows, .inl (cI, 20, .inl v_rows))] H := hP
        have hD : va_D A [(a_this, .inr (7, [.ref a_start, .ref a_mass, .ref a_rows, .ref a_told, .int v_signs, .ref a_sign, .int v_many, .ref a_kept, .ref a_ended, .ref a_cell, .ref a_loss, .long v_left, .long v_rime, .long v_frost, .int v_began, .int v_last, .int v_rounds, .ref a_read, .ref a_times, .ref a_gains, .int v_seed, .ref a_image, .ref a_isKept])), (a_rows, .inl (cI, 20, .inl v_rows))] := hD
        refine lv_iload_n hx hb dX7_sumOf_30 rfl (lv_at hl 0 rfl) ?_
        exact hret _ _ _ _ _ _ dX7_sumOf_31 (by simp only [X7_sumOf, if_pos c7]) rfl hP hD hS
      · have n7 : ¬ (10 ≤ j4) := fun h9 => c7 ((fx_leN (x := (10 : Int32)) (y := (nI j4)) (a := 10) (b := j4) rfl rfl (by omega) (by omega)).mpr h9)
        refine lv_iload_n hx hb dX7_sumOf_10 rfl (lv_at hl 2 rfl) ?_
        refine lv_aload_n hx hb dX7_sumOf_11 rfl (lv_at hl 0 rfl) ?_
        refine va_get (D := D) (ci := 7) (v := .ref a_rows) (C := RX7) (T := TX7) (N := 23) hx hb hts iX7 hown hK hP 0 rfl rfl 2 (by decide) f16 (fun _ h9 => h9) rfl dX7_sumOf_12 ?_
        refine lv_bipush (v := 10) hx hb dX7_sumOf_15 (by decide) ?_
        refine lv_iload_n hx hb dX7_sumOf_17 rfl (lv_at hl 1 rfl) ?_
        refine lv_imul hx hb dX7_sumOf_18 ?_
        refine W.eq (g2 := F0 m 19 ls (.int (nI (10 * p_p.toNatClampNeg)) :: [.ref a_rows, .int x4_l2])) (congrArg (fun z9 : Int32 => F0 m 19 ls (.int z9 :: [.ref a_rows, .int x4_l2])) (fx_mulN (x := (10 : Int32)) (y := p_p) (a := 10) (b := p_p.toNatClampNeg) rfl e_p)) ?_
        refine lv_iload_n hx hb dX7_sumOf_19 rfl (lv_at hl 3 rfl) ?_
        refine lv_iadd hx hb dX7_sumOf_20 ?_
        refine W.eq (g2 := F0 m 21 ls (.int (nI ((10 * p_p.toNatClampNeg) + j4)) :: [.ref a_rows, .int x4_l2])) (congrArg (fun z9 : Int32 => F0 m 21 ls (.int z9 :: [.ref a_rows, .int x4_l2])) (fx_addN (x := nI (10 * p_p.toNatClampNeg)) (y := nI j4) (a := (10 * p_p.toNatClampNeg)) (b := j4) rfl rfl)) ?_
        refine fx_iald hx hb hK hP 1 0 rfl rfl ((10 * p_p.toNatClampNeg) + j4) rfl (by omega) (by decide) dX7_sumOf_21 ?_
        refine lv_iadd hx hb dX7_sumOf_22 ?_
        refine lv_istore_n (lv' := [(2, .int (x4_l2 + (v_rows ((10 * p_p.toNatClampNeg) + j4)))), (0, .ref a_this), (1, .int p_p), (3, .int (nI j4))]) hx hb dX7_sumOf_23 rfl hl (by decide) rfl (fun ls hl => ?_)
        refine lv_iinc (v := nI (j4 + 1)) (lv' := [(3, .int (nI (j4 + 1))), (2, .int (x4_l2 + (v_rows ((10 * p_p.toNatClampNeg) + j4)))), (0, .ref a_this), (1, .int p_p)]) hx hb dX7_sumOf_24 hl (k := 3) rfl (fx_inc _ 1) (by decide) rfl (fun ls hl => ?_)
        refine lv_goto (tgt := 4) hx hb dX7_sumOf_27 (by decide) ?_
        exact ih4 (j4 + 1) (x4_l2 + (v_rows ((10 * p_p.toNatClampNeg) + j4))) (by omega) (by omega)  (by simp only [X7_sumOf_L4, hx4, if_neg c7]) _ _ hP hD hS ls (lv_sub hl [2, 3, 1, 0] rfl)
  exact L4 (10 + 1) 0 (0 : Int32) (by omega) (by omega)  rfl _ _ hP hD hS ls (lv_sub hl [2, 3, 1, 0] rfl)

def X7_pail_m27_s1 (p_what : Int32) : Int32 := (if p_what = 0 then (0 : Int32) else (10 : Int32))
def X7_pail_m57_s0 (v_start : Nat → Int32) (v_mass : Nat → Int32) (p_p : Int32) (p_what : Int32) : Int32 := (if p_what = 0 then (v_start p_p.toNatClampNeg) else (v_mass p_p.toNatClampNeg))
def X7_pail_m80_start (v_start : Nat → Int32) (p_p : Int32) (p_what : Int32) (p_v : Int32) : Nat → Int32 := (if p_what = 0 then (upd v_start p_p.toNatClampNeg p_v) else v_start)
def X7_pail_m80_mass (v_mass : Nat → Int32) (p_p : Int32) (p_what : Int32) (p_v : Int32) : Nat → Int32 := (if p_what = 0 then v_mass else (upd v_mass p_p.toNatClampNeg p_v))
def X7_pail (v_start : Nat → Int32) (v_mass : Nat → Int32) (p_p : Int32) (p_what : Int32) (p_v : Int32) : Int32 := (if (X7_isTwo p_p) = 0 then ((-1) : Int32) else (if (X7_isTwo p_what) = 0 then ((-2) : Int32) else (if (X7_in p_v (X7_pail_m27_s1 p_what) (100 : Int32)) = 0 then ((-2) : Int32) else (X7_pail_m57_s0 v_start v_mass p_p p_what))))
def X7_pail_o_start (v_start : Nat → Int32) (p_p : Int32) (p_what : Int32) (p_v : Int32) : Nat → Int32 := (if (X7_isTwo p_p) = 0 then v_start else (if (X7_isTwo p_what) = 0 then v_start else (if (X7_in p_v (X7_pail_m27_s1 p_what) (100 : Int32)) = 0 then v_start else (X7_pail_m80_start v_start p_p p_what p_v))))
def X7_pail_o_mass (v_mass : Nat → Int32) (p_p : Int32) (p_what : Int32) (p_v : Int32) : Nat → Int32 := (if (X7_isTwo p_p) = 0 then v_mass else (if (X7_isTwo p_what) = 0 then v_mass else (if (X7_in p_v (X7_pail_m27_s1 p_what) (100 : Int32)) = 0 then v_mass else (X7_pail_m80_mass v_mass p_p p_what p_v))))
abbrev rX7_pail : Room := { frames := 2, cells := 0, slots := 0, locals := 42 }
theorem n_X7_pail_X7 : ∀ w ∈ wsX70, w ∈ wsX7_pail := by decide +kernel
set_option maxHeartbeats 8000000 in
set_option maxRecDepth 100000 in
theorem k_X7_pail (l : Launch) (G : fxE) (hG : fxGood G) (D : va_G) (cI cJ cZ cH : ClassId) (a_start a_mass a_rows a_told a_sign a_kept a_ended a_cell a_loss a_read a_times a_gains a_image a_isKept a_this : Nat) (v_signs : Int32) (v_many : Int32) (v_left : Int64) (v_rime : Int64) (v_frost : Int64) (v_began : Int32) (v_last : Int32) (v_rounds : Int32) (v_seed : Int32) (v_start : Nat → Int32) (v_mass : Nat → Int32) (p_p : Int32) (p_what : Int32) (p_v : Int32) : MetI l yX7_pail wsX7_pail rX7_pail G D (tyL cI cJ cZ cH) [.ref a_this, .int p_p, .int p_what, .int p_v] [(a_this, .inr (7, [.ref a_start, .ref a_mass, .ref a_rows, .ref a_told, .int v_signs, .ref a_sign, .int v_many, .ref a_kept, .ref a_ended, .ref a_cell, .ref a_loss, .long v_left, .long v_rime, .long v_frost, .int v_began, .int v_last, .int v_rounds, .ref a_read, .ref a_times, .ref a_gains, .int v_seed, .ref a_image, .ref a_isKept])), (a_start, .inl (cI, 2, .inl v_start)), (a_mass, .inl (cI, 2, .inl v_mass))] (X7_pail v_start v_mass p_p p_what p_v) [(a_this, .inr (7, [.ref a_start, .ref a_mass, .ref a_rows, .ref a_told, .int v_signs, .ref a_sign, .int v_many, .ref a_kept, .ref a_ended, .ref a_cell, .ref a_loss, .long v_left, .long v_rime, .long v_frost, .int v_began, .int v_last, .int v_rounds, .ref a_read, .ref a_times, .ref a_gains, .int v_seed, .ref a_image, .ref a_isKept])), (a_start, .inl (cI, 2, .inl (X7_pail_o_start v_start p_p p_what p_v))), (a_mass, .inl (cI, 2, .inl (X7_pail_o_mass v_mass p_p p_what p_v)))] := by
  refine fx_startI (cc := cX7_pail) (n := 5) (rt := .int) (plainFor_of_name (by decide)) rfl (Nat.le_of_ble_eq_true rfl) rfl ?_
  intro p e s m args below meth c A Q ls hx hb hml hown hts hA hGs hK hP hD hS hl hret
  have hl : lv_has ls 5 [(0, .ref a_this), (1, .int p_p), (2, .int p_what), (3, .int p_v)] := hl
  have iX7 := n_X7_pail_X7
  have f13 := hts (.fieldLink RX7 13 "FrozeFirstModel" "mass" "[I") (by decide +kernel)
  have f7 := hts (.fieldLink RX7 7 "FrozeFirstModel" "start" "[I") (by decide +kernel)
  refine lv_iload_n hx hb dX7_pail_0 rfl (lv_at hl 1 rfl) ?_
  refine fx_callSI (As := [.int p_p]) (rest := []) (wr := [(a_this, .inr (7, [.ref a_start, .ref a_mass, .ref a_rows, .ref a_told, .int v_signs, .ref a_sign, .int v_many, .ref a_kept, .ref a_ended, .ref a_cell, .ref a_loss, .long v_left, .long v_rime, .long v_frost, .int v_began, .int v_last, .int v_rounds, .ref a_read, .ref a_times, .ref a_gains, .int v_seed, .ref a_image, .ref a_isKept])), (a_start, .inl (cI, 2, .inl v_start)), (a_mass, .inl (cI, 2, .inl v_mass))]) ⟨hx, hb, hml, hown, hts⟩ hG hGs (k_X7_isTwo l G hG D cI cJ cZ cH p_p  ) (va_cwS 1 hts gX7_pail_X7_isTwo rfl rfl rfl (by decide +kernel) ⟨by decide, by decide⟩) hK hP hD hS hA [] [0, 1, 2] rfl rfl (by decide) (by decide) (by decide) rfl rfl hl.1 (Nat.le_of_ble_eq_true rfl) dX7_pail_1 (Nat.zero_le _) (Nat.zero_le _) (fun H locs hP hD hS => ?_)
  have hP : va_P D vwCl [(a_this, .inr (7, [.ref a_start, .ref a_mass, .ref a_rows, .ref a_told, .int v_signs, .ref a_sign, .int v_many, .ref a_kept, .ref a_ended, .ref a_cell, .ref a_loss, .long v_left, .long v_rime, .long v_frost, .int v_began, .int v_last, .int v_rounds, .ref a_read, .ref a_times, .ref a_gains, .int v_seed, .ref a_image, .ref a_isKept])), (a_start, .inl (cI, 2, .inl v_start)), (a_mass, .inl (cI, 2, .inl v_mass))] H := hP
  have hD : va_D A [(a_this, .inr (7, [.ref a_start, .ref a_mass, .ref a_rows, .ref a_told, .int v_signs, .ref a_sign, .int v_many, .ref a_kept, .ref a_ended, .ref a_cell, .ref a_loss, .long v_left, .long v_rime, .long v_frost, .int v_began, .int v_last, .int v_rounds, .ref a_read, .ref a_times, .ref a_gains, .int v_seed, .ref a_image, .ref a_isKept])), (a_start, .inl (cI, 2, .inl v_start)), (a_mass, .inl (cI, 2, .inl v_mass))] := hD
  refine lv_if_ne (tgt := 9) hx hb dX7_pail_4 (by decide) (fun c4 => ?_) (fun c4 => ?_)
  · refine lv_iload_n hx hb dX7_pail_9 rfl (lv_at hl 2 rfl) ?_
    refine fx_callSI (As := [.int p_what]) (rest := []) (wr := [(a_this, .inr (7, [.ref a_start, .ref a_mass, .ref a_rows, .ref a_told, .int v_signs, .ref a_sign, .int v_many, .ref a_kept, .ref a_ended, .ref a_cell, .ref a_loss, .long v_left, .long v_rime, .long v_frost, .int v_began, .int v_last, .int v_rounds, .ref a_read, .ref a_times, .ref a_gains, .int v_seed, .ref a_image, .ref a_isKept])), (a_start, .inl (cI, 2, .inl v_start)), (a_mass, .inl (cI, 2, .inl v_mass))]) ⟨hx, hb, hml, hown, hts⟩ hG hGs (k_X7_isTwo l G hG D cI cJ cZ cH p_what  ) (va_cwS 1 hts gX7_pail_X7_isTwo rfl rfl rfl (by decide +kernel) ⟨by decide, by decide⟩) hK hP hD hS hA [] [0, 1, 2] rfl rfl (by decide) (by decide) (by decide) rfl rfl hl.1 (Nat.le_of_ble_eq_true rfl) dX7_pail_10 (Nat.zero_le _) (Nat.zero_le _) (fun H locs hP hD hS => ?_)
    have hP : va_P D vwCl [(a_this, .inr (7, [.ref a_start, .ref a_mass, .ref a_rows, .ref a_told, .int v_signs, .ref a_sign, .int v_many, .ref a_kept, .ref a_ended, .ref a_cell, .ref a_loss, .long v_left, .long v_rime, .long v_frost, .int v_began, .int v_last, .int v_rounds, .ref a_read, .ref a_times, .ref a_gains, .int v_seed, .ref a_image, .ref a_isKept])), (a_start, .inl (cI, 2, .inl v_start)), (a_mass, .inl (cI, 2, .inl v_mass))] H := hP
    have hD : va_D A [(a_this, .inr (7, [.ref a_start, .ref a_mass, .ref a_rows, .ref a_told, .int v_signs, .ref a_sign, .int v_many, .ref a_kept, .ref a_ended, .ref a_cell, .ref a_loss, .long v_left, .long v_rime, .long v_frost, .int v_began, .int v_last, .int v_rounds, .ref a_read, .ref a_times, .ref a_gains, .int v_seed, .ref a_image, .ref a_isKept])), (a_start, .inl (cI, 2, .inl v_start)), (a_mass, .inl (cI, 2, .inl v_mass))] := hD
    refine lv_if_eq (tgt := 35) hx hb dX7_pail_13 (by decide) (fun c13 => ?_) (fun c13 => ?_)
    · refine lv_bipush (v := (-2)) hx hb dX7_pail_35 (by decide) ?_
      exact hret _ _ _ _ _ _ dX7_pail_37 (by simp only [X7_pail, if_neg c4, if_pos c13]) (by simp only [X7_pail_o_start, X7_pail_o_mass, if_neg c4, if_pos c13]) hP hD hS
    · refine lv_iload_n hx hb dX7_pail_16 rfl (lv_at hl 3 rfl) ?_
      refine lv_iload_n hx hb dX7_pail_17 rfl (lv_at hl 2 rfl) ?_
      have C27 : ∀ (x27_s1 : Int32), (X7_pail_m27_s1 p_what) = x27_s1 → ∀ (H : Heap) (locs : List Loc), va_P D vwCl [(a_this, .inr (7, [.ref a_start, .ref a_mass, .ref a_rows, .ref a_told, .int v_signs, .ref a_sign, .int v_many, .ref a_kept, .ref a_ended, .ref a_cell, .ref a_loss, .long v_left, .long v_rime, .long v_frost, .int v_began, .int v_last, .int v_rounds, .ref a_read, .ref a_times, .ref a_gains, .int v_seed, .ref a_image, .ref a_isKept])), (a_start, .inl (cI, 2, .inl v_start)), (a_mass, .inl (cI, 2, .inl v_mass))] H → va_D A [(a_this, .inr (7, [.ref a_start, .ref a_mass, .ref a_rows, .ref a_told, .int v_signs, .ref a_sign, .int v_many, .ref a_kept, .ref a_ended, .ref a_cell, .ref a_loss, .long v_left, .long v_rime, .long v_frost, .int v_began, .int v_last, .int v_rounds, .ref a_read, .ref a_times, .ref a_gains, .int v_seed, .ref a_image, .ref a_isKept])), (a_start, .inl (cI, 2, .inl v_start)), (a_mass, .inl (cI, 2, .inl v_mass))] → va_S A s.heap H locs → ∀ (ls : Array Slot), lv_has ls 5 [(0, .ref a_this), (1, .int p_p), (2, .int p_what), (3, .int p_v)] → W p l e rX7_pail s m args below meth c H locs 0 0 Q (F0 m 27 ls [.int x27_s1, .int p_v]) := by
        intro x27_s1 hx27_s1 H locs hP hD hS ls hl
        subst hx27_s1
        refine lv_bipush (v := 100) hx hb dX7_pail_27 (by decide) ?_
        refine fx_callSI (As := [.int p_v, .int (X7_pail_m27_s1 p_what), .int (100 : Int32)]) (rest := []) (wr := [(a_this, .inr (7, [.ref a_start, .ref a_mass, .ref a_rows, .ref a_told, .int v_signs, .ref a_sign, .int v_many, .ref a_kept, .ref a_ended, .ref a_cell, .ref a_loss, .long v_left, .long v_rime, .long v_frost, .int v_began, .int v_last, .int v_rounds, .ref a_read, .ref a_times, .ref a_gains, .int v_seed, .ref a_image, .ref a_isKept])), (a_start, .inl (cI, 2, .inl v_start)), (a_mass, .inl (cI, 2, .inl v_mass))]) ⟨hx, hb, hml, hown, hts⟩ hG hGs (k_X7_in l G hG D cI cJ cZ cH p_v (X7_pail_m27_s1 p_what) (100 : Int32)  ) (va_cwS 3 hts gX7_pail_X7_in rfl rfl rfl (by decide +kernel) ⟨by decide, by decide⟩) hK hP hD hS hA [] [0, 1, 2] rfl rfl (by decide) (by decide) (by decide) rfl rfl hl.1 (Nat.le_of_ble_eq_true rfl) dX7_pail_29 (Nat.zero_le _) (Nat.zero_le _) (fun H locs hP hD hS => ?_)
        have hP : va_P D vwCl [(a_this, .inr (7, [.ref a_start, .ref a_mass, .ref a_rows, .ref a_told, .int v_signs, .ref a_sign, .int v_many, .ref a_kept, .ref a_ended, .ref a_cell, .ref a_loss, .long v_left, .long v_rime, .long v_frost, .int v_began, .int v_last, .int v_rounds, .ref a_read, .ref a_times, .ref a_gains, .int v_seed, .ref a_image, .ref a_isKept])), (a_start, .inl (cI, 2, .inl v_start)), (a_mass, .inl (cI, 2, .inl v_mass))] H := hP
        have hD : va_D A [(a_this, .inr (7, [.ref a_start, .ref a_mass, .ref a_rows, .ref a_told, .int v_signs, .ref a_sign, .int v_many, .ref a_kept, .ref a_ended, .ref a_cell, .ref a_loss, .long v_left, .long v_rime, .long v_frost, .int v_began, .int v_last, .int v_rounds, .ref a_read, .ref a_times, .ref a_gains, .int v_seed, .ref a_image, .ref a_isKept])), (a_start, .inl (cI, 2, .inl v_start)), (a_mass, .inl (cI, 2, .inl v_mass))] := hD
        refine lv_if_ne (tgt := 38) hx hb dX7_pail_32 (by decide) (fun c32 => ?_) (fun c32 => ?_)
        · refine lv_iload_n hx hb dX7_pail_38 rfl (lv_at hl 2 rfl) ?_
          have C57 : ∀ (x57_s0 : Int32), (X7_pail_m57_s0 v_start v_mass p_p p_what) = x57_s0 → ∀ (H : Heap) (locs : List Loc), va_P D vwCl [(a_this, .inr (7, [.ref a_start, .ref a_mass, .ref a_rows, .ref a_told, .int v_signs, .ref a_sign, .int v_many, .ref a_kept, .ref a_ended, .ref a_cell, .ref a_loss, .long v_left, .long v_rime, .long v_frost, .int v_began, .int v_last, .int v_rounds, .ref a_read, .ref a_times, .ref a_gains, .int v_seed, .ref a_image, .ref a_isKept])), (a_start, .inl (cI, 2, .inl v_start)), (a_mass, .inl (cI, 2, .inl v_mass))] H → va_D A [(a_this, .inr (7, [.ref a_start, .ref a_mass, .ref a_rows, .ref a_told, .int v_signs, .ref a_sign, .int v_many, .ref a_kept, .ref a_ended, .ref a_cell, .ref a_loss, .long v_left, .long v_rime, .long v_frost, .int v_began, .int v_last, .int v_rounds, .ref a_read, .ref a_times, .ref a_gains, .int v_seed, .ref a_image, .ref a_isKept])), (a_start, .inl (cI, 2, .inl v_start)), (a_mass, .inl (cI, 2, .inl v_mass))] → va_S A s.heap H locs → ∀ (ls : Array Slot), lv_has ls 5 [(0, .ref a_this), (1, .int p_p), (2, .int p_what), (3, .int p_v)] → W p l e rX7_pail s m args below meth c H locs 0 0 Q (F0 m 57 ls [.int x57_s0]) := by
            intro x57_s0 hx57_s0 H locs hP hD hS ls hl
            subst hx57_s0
            refine lv_istore (lv' := [(4, .int (X7_pail_m57_s0 v_start v_mass p_p p_what)), (0, .ref a_this), (1, .int p_p), (2, .int p_what), (3, .int p_v)]) hx hb dX7_pail_57 hl (by decide) rfl (fun ls hl => ?_)
            refine lv_iload_n hx hb dX7_pail_59 rfl (lv_at hl 3 rfl) ?_
            have C80 : ∀ (x80_start : Nat → Int32) (x80_mass : Nat → Int32), (X7_pail_m80_start v_start p_p p_what p_v) = x80_start → (X7_pail_m80_mass v_mass p_p p_what p_v) = x80_mass → ∀ (H : Heap) (locs : List Loc), va_P D vwCl [(a_this, .inr (7, [.ref a_start, .ref a_mass, .ref a_rows, .ref a_told, .int v_signs, .ref a_sign, .int v_many, .ref a_kept, .ref a_ended, .ref a_cell, .ref a_loss, .long v_left, .long v_rime, .long v_frost, .int v_began, .int v_last, .int v_rounds, .ref a_read, .ref a_times, .ref a_gains, .int v_seed, .ref a_image, .ref a_isKept])), (a_start, .inl (cI, 2, .inl x80_start)), (a_mass, .inl (cI, 2, .inl x80_mass))] H → va_D A [(a_this, .inr (7, [.ref a_start, .ref a_mass, .ref a_rows, .ref a_told, .int v_signs, .ref a_sign, .int v_many, .ref a_kept, .ref a_ended, .ref a_cell, .ref a_loss, .long v_left, .long v_rime, .long v_frost, .int v_began, .int v_last, .int v_rounds, .ref a_read, .ref a_times, .ref a_gains, .int v_seed, .ref a_image, .ref a_isKept])), (a_start, .inl (cI, 2, .inl x80_start)), (a_mass, .inl (cI, 2, .inl x80_mass))] → va_S A s.heap H locs → ∀ (ls : Array Slot), lv_has ls 5 [(4, .int (X7_pail_m57_s0 v_start v_mass p_p p_what))] → W p l e rX7_pail s m args below meth c H locs 0 0 Q (F0 m 80 ls []) := by
              intro x80_start x80_mass hx80_start hx80_mass H locs hP hD hS ls hl
              subst hx80_start
              subst hx80_mass
              refine lv_iload hx hb dX7_pail_80 (lv_at hl 0 rfl) ?_
              exact hret _ _ _ _ _ _ dX7_pail_82 (by simp only [X7_pail, if_neg c4, if_neg c13, if_neg c32]) (by simp only [X7_pail_o_start, X7_pail_o_mass, if_neg c4, if_neg c13, if_neg c32]) hP hD hS
            refine lv_if_ne (tgt := 73) hx hb dX7_pail_60 (by decide) (fun c60 => ?_) (fun c60 => ?_)
            · refine lv_aload_n hx hb dX7_pail_73 rfl (lv_at hl 1 rfl) ?_
              refine va_get (D := D) (ci := 7) (v := .ref a_mass) (C := RX7) (T := TX7) (N := 23) hx hb hts iX7 hown hK hP 0 rfl rfl 1 (by decide) f13 (fun _ h9 => h9) rfl dX7_pail_74 ?_
              refine lv_iload_n hx hb dX7_pail_77 rfl (lv_at hl 2 rfl) ?_
              refine lv_iload_n hx hb dX7_pail_78 rfl (lv_at hl 4 rfl) ?_
              refine va_iast hx hb hK hP hD hS 2 0 rfl rfl (fy_w1 c4) dX7_pail_79 (fun H locs hP hD hS => ?_)
              have hP : va_P D vwCl [(a_this, .inr (7, [.ref a_start, .ref a_mass, .ref a_rows, .ref a_told, .int v_signs, .ref a_sign, .int v_many, .ref a_kept, .ref a_ended, .ref a_cell, .ref a_loss, .long v_left, .long v_rime, .long v_frost, .int v_began, .int v_last, .int v_rounds, .ref a_read, .ref a_times, .ref a_gains, .int v_seed, .ref a_image, .ref a_isKept])), (a_start, .inl (cI, 2, .inl v_start)), (a_mass, .inl (cI, 2, .inl (upd v_mass p_p.toNatClampNeg p_v)))] H := hP
              have hD : va_D A [(a_this, .inr (7, [.ref a_start, .ref a_mass, .ref a_rows, .ref a_told, .int v_signs, .ref a_sign, .int v_many, .ref a_kept, .ref a_ended, .ref a_cell, .ref a_loss, .long v_left, .long v_rime, .long v_frost, .int v_began, .int v_last, .int v_rounds, .ref a_read, .ref a_times, .ref a_gains, .int v_seed, .ref a_image, .ref a_isKept])), (a_start, .inl (cI, 2, .inl v_start)), (a_mass, .inl (cI, 2, .inl (upd v_mass p_p.toNatClampNeg p_v)))] := hD
              exact C80 v_start (upd v_mass p_p.toNatClampNeg p_v) (by simp only [X7_pail_m80_start, if_neg c4, if_neg c13, if_neg c32, if_neg c60]) (by simp only [X7_pail_m80_mass, if_neg c4, if_neg c13, if_neg c32, if_neg c60]) _ _ hP hD hS ls (lv_sub hl [0] rfl)
            · refine lv_aload_n hx hb dX7_pail_63 rfl (lv_at hl 1 rfl) ?_
              refine va_get (D := D) (ci := 7) (v := .ref a_start) (C := RX7) (T := TX7) (N := 23) hx hb hts iX7 hown hK hP 0 rfl rfl 0 (by decide) f7 (fun _ h9 => h9) rfl dX7_pail_64 ?_
              refine lv_iload_n hx hb dX7_pail_67 rfl (lv_at hl 2 rfl) ?_
              refine lv_iload_n hx hb dX7_pail_68 rfl (lv_at hl 4 rfl) ?_
              refine va_iast hx hb hK hP hD hS 1 0 rfl rfl (fy_w1 c4) dX7_pail_69 (fun H locs hP hD hS => ?_)
              have hP : va_P D vwCl [(a_this, .inr (7, [.ref a_start, .ref a_mass, .ref a_rows, .ref a_told, .int v_signs, .ref a_sign, .int v_many, .ref a_kept, .ref a_ended, .ref a_cell, .ref a_loss, .long v_left, .long v_rime, .long v_frost, .int v_began, .int v_last, .int v_rounds, .ref a_read, .ref a_times, .ref a_gains, .int v_seed, .ref a_image, .ref a_isKept])), (a_start, .inl (cI, 2, .inl (upd v_start p_p.toNatClampNeg p_v))), (a_mass, .inl (cI, 2, .inl v_mass))] H := hP
              have hD : va_D A [(a_this, .inr (7, [.ref a_start, .ref a_mass, .ref a_rows, .ref a_told, .int v_signs, .ref a_sign, .int v_many, .ref a_kept, .ref a_ended, .ref a_cell, .ref a_loss, .long v_left, .long v_rime, .long v_frost, .int v_began, .int v_last, .int v_rounds, .ref a_read, .ref a_times, .ref a_gains, .int v_seed, .ref a_image, .ref a_isKept])), (a_start, .inl (cI, 2, .inl (upd v_start p_p.toNatClampNeg p_v))), (a_mass, .inl (cI, 2, .inl v_mass))] := hD
              refine lv_goto (tgt := 80) hx hb dX7_pail_70 (by decide) ?_
              exact C80 (upd v_start p_p.toNatClampNeg p_v) v_mass (by simp only [X7_pail_m80_start, if_neg c4, if_neg c13, if_neg c32, if_pos c60]) (by simp only [X7_pail_m80_mass, if_neg c4, if_neg c13, if_neg c32, if_pos c60]) _ _ hP hD hS ls (lv_sub hl [0] rfl)
          refine lv_if_ne (tgt := 51) hx hb dX7_pail_39 (by decide) (fun c39 => ?_) (fun c39 => ?_)
          · refine lv_aload_n hx hb dX7_pail_51 rfl (lv_at hl 0 rfl) ?_
            refine va_get (D := D) (ci := 7) (v := .ref a_mass) (C := RX7) (T := TX7) (N := 23) hx hb hts iX7 hown hK hP 0 rfl rfl 1 (by decide) f13 (fun _ h9 => h9) rfl dX7_pail_52 ?_
            refine lv_iload_n hx hb dX7_pail_55 rfl (lv_at hl 1 rfl) ?_
            refine va_iald hx hb hK hP 2 0 rfl rfl (fy_w1 c4) dX7_pail_56 ?_
            exact C57 (v_mass p_p.toNatClampNeg) (by simp only [X7_pail_m57_s0, if_neg c4, if_neg c13, if_neg c32, if_neg c39]) _ _ hP hD hS ls (lv_sub hl [0, 1, 2, 3] rfl)
          · refine lv_aload_n hx hb dX7_pail_42 rfl (lv_at hl 0 rfl) ?_
            refine va_get (D := D) (ci := 7) (v := .ref a_start) (C := RX7) (T := TX7) (N := 23) hx hb hts iX7 hown hK hP 0 rfl rfl 0 (by decide) f7 (fun _ h9 => h9) rfl dX7_pail_43 ?_
            refine lv_iload_n hx hb dX7_pail_46 rfl (lv_at hl 1 rfl) ?_
            refine va_iald hx hb hK hP 1 0 rfl rfl (fy_w1 c4) dX7_pail_47 ?_
            refine lv_goto (tgt := 57) hx hb dX7_pail_48 (by decide) ?_
            exact C57 (v_start p_p.toNatClampNeg) (by simp only [X7_pail_m57_s0, if_neg c4, if_neg c13, if_neg c32, if_pos c39]) _ _ hP hD hS ls (lv_sub hl [0, 1, 2, 3] rfl)
        · refine lv_bipush (v := (-2)) hx hb dX7_pail_35 (by decide) ?_
          exact hret _ _ _ _ _ _ dX7_pail_37 (by simp only [X7_pail, if_neg c4, if_neg c13, if_pos c32]) (by simp only [X7_pail_o_start, X7_pail_o_mass, if_neg c4, if_neg c13, if_pos c32]) hP hD hS
      refine lv_if_ne (tgt := 25) hx hb dX7_pail_18 (by decide) (fun c18 => ?_) (fun c18 => ?_)
      · refine lv_bipush (v := 10) hx hb dX7_pail_25 (by decide) ?_
        exact C27 (10 : Int32) (by simp only [X7_pail_m27_s1, if_neg c4, if_neg c13, if_neg c18]) _ _ hP hD hS ls (lv_sub hl [0, 1, 2, 3] rfl)
      · refine lv_iconst (v := 0) hx hb dX7_pail_21 (by decide) ?_
        refine lv_goto (tgt := 27) hx hb dX7_pail_22 (by decide) ?_
        exact C27 (0 : Int32) (by simp only [X7_pail_m27_s1, if_neg c4, if_neg c13, if_pos c18]) _ _ hP hD hS ls (lv_sub hl [0, 1, 2, 3] rfl)
  · refine lv_iconst (v := (-1)) hx hb dX7_pail_7 (by decide) ?_
    exact hret _ _ _ _ _ _ dX7_pail_8 (by simp only [X7_pail, if_pos c4]) (by simp only [X7_pail_o_start, X7_pail_o_mass, if_pos c4]) hP hD hS

def X7_row_L35 (v_rows : Nat → Int32) (p_p : Int32) : Nat → (Int64)
  | 0 => (0 : Int64)
  | j35 + 1 => (((10 : Int64) * (X7_row_L35 v_rows p_p j35)) + (v_rows ((10 * p_p.toNatClampNeg) + j35)).toInt64)
def X7_row (v_rows : Nat → Int32) (p_p : Int32) (p_row : Int64) : Int64 := (if (X7_isTwo p_p) = 0 then (-1 : Int64) else (if p_row < (1 : Int64) then (-2 : Int64) else (if p_row ≤ (9999999999 : Int64) then (X7_row_L35 v_rows p_p 10) else (-2 : Int64))))
def X7_row_o_rows (v_rows : Nat → Int32) (p_p : Int32) (p_row : Int64) : Nat → Int32 := (if (X7_isTwo p_p) = 0 then v_rows else (if p_row < (1 : Int64) then v_rows else (if p_row ≤ (9999999999 : Int64) then (X7_layRow_o_rows v_rows p_p p_row) else v_rows)))
abbrev rX7_row : Room := { frames := 2, cells := 0, slots := 0, locals := 42 }
theorem n_X7_row_X7 : ∀ w ∈ wsX70, w ∈ wsX7_row := by decide +kernel
set_option maxHeartbeats 8000000 in
set_option maxRecDepth 100000 in
theorem k_X7_row (l : Launch) (G : fxE) (hG : fxGood G) (D : va_G) (cI cJ cZ cH : ClassId) (a_start a_mass a_rows a_told a_sign a_kept a_ended a_cell a_loss a_read a_times a_gains a_image a_isKept a_this : Nat) (v_signs : Int32) (v_many : Int32) (v_left : Int64) (v_rime : Int64) (v_frost : Int64) (v_began : Int32) (v_last : Int32) (v_rounds : Int32) (v_seed : Int32) (v_rows : Nat → Int32) (p_p : Int32) (p_row : Int64) : MetL l yX7_row wsX7_row rX7_row G D (tyL cI cJ cZ cH) [.ref a_this, .int p_p, .long p_row] [(a_this, .inr (7, [.ref a_start, .ref a_mass, .ref a_rows, .ref a_told, .int v_signs, .ref a_sign, .int v_many, .ref a_kept, .ref a_ended, .ref a_cell, .ref a_loss, .long v_left, .long v_rime, .long v_frost, .int v_began, .int v_last, .int v_rounds, .ref a_read, .ref a_times, .ref a_gains, .int v_seed, .ref a_image, .ref a_isKept])), (a_rows, .inl (cI, 20, .inl v_rows))] (X7_row v_rows p_p p_row) [(a_this, .inr (7, [.ref a_start, .ref a_mass, .ref a_rows, .ref a_told, .int v_signs, .ref a_sign, .int v_many, .ref a_kept, .ref a_ended, .ref a_cell, .ref a_loss, .long v_left, .long v_rime, .long v_frost, .int v_began, .int v_last, .int v_rounds, .ref a_read, .ref a_times, .ref a_gains, .int v_seed, .ref a_image, .ref a_isKept])), (a_rows, .inl (cI, 20, .inl (X7_row_o_rows v_rows p_p p_row)))] := by
  refine fx_startL (cc := cX7_row) (n := 7) (plainFor_of_name (by decide)) rfl (Nat.le_of_ble_eq_true rfl) ?_
  intro p e s m args below meth c A Q ls hx hb hml hown hts hA hGs hK hP hD hS hl hret
  have hl : lv_has ls 7 [(0, .ref a_this), (1, .int p_p), (2, .long p_row)] := hl
  have iX7 := n_X7_row_X7
  have k74 := hts (.constantLong RX7 74 (-2)) (by decide +kernel)
  have k72 := hts (.constantLong RX7 72 9999999999) (by decide +kernel)
  have k64 := hts (.constantLong RX7 64 10) (by decide +kernel)
  have f16 := hts (.fieldLink RX7 16 "FrozeFirstModel" "rows" "[I") (by decide +kernel)
  have k70 := hts (.constantLong RX7 70 (-1)) (by decide +kernel)
  refine lv_iload_n hx hb dX7_row_0 rfl (lv_at hl 1 rfl) ?_
  refine fx_callSI (As := [.int p_p]) (rest := []) (wr := [(a_this, .inr (7, [.ref a_start, .ref a_mass, .ref a_rows, .ref a_told, .int v_signs, .ref a_sign, .int v_many, .ref a_kept, .ref a_ended, .ref a_cell, .ref a_loss, .long v_left, .long v_rime, .long v_frost, .int v_began, .int v_last, .int v_rounds, .ref a_read, .ref a_times, .ref a_gains, .int v_seed, .ref a_image, .ref a_isKept])), (a_rows, .inl (cI, 20, .inl v_rows))]) ⟨hx, hb, hml, hown, hts⟩ hG hGs (k_X7_isTwo l G hG D cI cJ cZ cH p_p  ) (va_cwS 1 hts gX7_row_X7_isTwo rfl rfl rfl (by decide +kernel) ⟨by decide, by decide⟩) hK hP hD hS hA [] [0, 1] rfl rfl (by decide) (by decide) (by decide) rfl rfl hl.1 (Nat.le_of_ble_eq_true rfl) dX7_row_1 (Nat.zero_le _) (Nat.zero_le _) (fun H locs hP hD hS => ?_)
  have hP : va_P D vwCl [(a_this, .inr (7, [.ref a_start, .ref a_mass, .ref a_rows, .ref a_told, .int v_signs, .ref a_sign, .int v_many, .ref a_kept, .ref a_ended, .ref a_cell, .ref a_loss, .long v_left, .long v_rime, .long v_frost, .int v_began, .int v_last, .int v_rounds, .ref a_read, .ref a_times, .ref a_gains, .int v_seed, .ref a_image, .ref a_isKept])), (a_rows, .inl (cI, 20, .inl v_rows))] H := hP
  have hD : va_D A [(a_this, .inr (7, [.ref a_start, .ref a_mass, .ref a_rows, .ref a_told, .int v_signs, .ref a_sign, .int v_many, .ref a_kept, .ref a_ended, .ref a_cell, .ref a_loss, .long v_left, .long v_rime, .long v_frost, .int v_began, .int v_last, .int v_rounds, .ref a_read, .ref a_times, .ref a_gains, .int v_seed, .ref a_image, .ref a_isKept])), (a_rows, .inl (cI, 20, .inl v_rows))] := hD
  refine lv_if_ne (tgt := 11) hx hb dX7_row_4 (by decide) (fun c4 => ?_) (fun c4 => ?_)
  · refine lv_lload_n hx hb dX7_row_11 rfl (lv_at hl 2 rfl) ?_
    refine lv_lconst (v := 1) hx hb dX7_row_12 (by decide) ?_
    refine fx_lc_lt (tgt := 25) hx hb dX7_row_13 dX7_row_14 (by decide) (fun c13 => ?_) (fun c13 => ?_)
    · refine lv_ldc2 (v := (-2)) hx hb hown k74 dX7_row_25 ?_
      exact hret _ _ _ _ _ _ dX7_row_28 (by simp only [X7_row, if_neg c4, if_pos c13]) (by simp only [X7_row_o_rows, if_neg c4, if_pos c13]) hP hD hS
    · refine lv_lload_n hx hb dX7_row_17 rfl (lv_at hl 2 rfl) ?_
      refine lv_ldc2 (v := 9999999999) hx hb hown k72 dX7_row_18 ?_
      refine fx_lc_le (tgt := 29) hx hb dX7_row_21 dX7_row_22 (by decide) (fun c21 => ?_) (fun c21 => ?_)
      · have e_p := fx_tn (fy_wi c4).1
        have b_p := fx_tb (N := 1) (n := 1) rfl (by decide) (fy_wi c4).1 (fy_wi c4).2
        refine lv_lconst (v := 0) hx hb dX7_row_29 (by decide) ?_
        refine lv_lstore (lv' := [(4, .long (0 : Int64)), (0, .ref a_this), (1, .int p_p), (2, .long p_row)]) hx hb dX7_row_30 hl (by decide) rfl (fun ls hl => ?_)
        refine lv_iconst (v := 0) hx hb dX7_row_32 (by decide) ?_
        refine lv_istore (lv' := [(6, .int (0 : Int32)), (4, .long (0 : Int64)), (0, .ref a_this), (1, .int p_p), (2, .long p_row)]) hx hb dX7_row_33 hl (by decide) rfl (fun ls hl => ?_)
        have L35 : ∀ (n j35 : Nat) (x35_l4 : Int64), j35 ≤ 10 → 10 + 1 ≤ j35 + n → X7_row_L35 v_rows p_p j35 = x35_l4 → ∀ (H : Heap) (locs : List Loc), va_P D vwCl [(a_this, .inr (7, [.ref a_start, .ref a_mass, .ref a_rows, .ref a_told, .int v_signs, .ref a_sign, .int v_many, .ref a_kept, .ref a_ended, .ref a_cell, .ref a_loss, .long v_left, .long v_rime, .long v_frost, .int v_began, .int v_last, .int v_rounds, .ref a_read, .ref a_times, .ref a_gains, .int v_seed, .ref a_image, .ref a_isKept])), (a_rows, .inl (cI, 20, .inl v_rows))] H → va_D A [(a_this, .inr (7, [.ref a_start, .ref a_mass, .ref a_rows, .ref a_told, .int v_signs, .ref a_sign, .int v_many, .ref a_kept, .ref a_ended, .ref a_cell, .ref a_loss, .long v_left, .long v_rime, .long v_frost, .int v_began, .int v_last, .int v_rounds, .ref a_read, .ref a_times, .ref a_gains, .int v_seed, .ref a_image, .ref a_isKept])), (a_rows, .inl (cI, 20, .inl v_rows))] → va_S A s.heap H locs → ∀ (ls : Array Slot), lv_has ls 7 [(0, .ref a_this), (1, .int p_p), (2, .long p_row), (4, .long x35_l4), (6, .int (nI j35))] → W p l e rX7_row s m args below meth c H locs 0 0 Q (F0 m 35 ls []) := by
          intro n
          induction n with
          | zero => intro j35 x35_l4 h1 h2; exact absurd h2 (by omega)
          | succ n ih35 =>
            intro j35 x35_l4 hj35 hn35  hx35 H locs hP hD hS ls hl
            refine lv_iload hx hb dX7_row_35 (lv_at hl 4 rfl) ?_
            refine lv_bipush (v := 10) hx hb dX7_row_37 (by decide) ?_
            refine lv_icmp_ge (tgt := 70) hx hb dX7_row_39 (by decide) (fun c39 => ?_) (fun c39 => ?_)
            · have n39 : 10 ≤ j35 := (fx_leN (x := (10 : Int32)) (y := (nI j35)) (a := 10) (b := j35) rfl rfl (by omega) (by omega)).mp c39
              have e35 : 10 = j35 := by omega
              subst e35
              subst hx35
              have hl := lv_sub (l' := [(0, .ref a_this), (1, .int p_p), (2, .long p_row), (4, .long (X7_row_L35 v_rows p_p 10))]) hl [0, 1, 2, 3] rfl
              have hP : va_P D vwCl [(a_this, .inr (7, [.ref a_start, .ref a_mass, .ref a_rows, .ref a_told, .int v_signs, .ref a_sign, .int v_many, .ref a_kept, .ref a_ended, .ref a_cell, .ref a_loss, .long v_left, .long v_rime, .long v_frost, .int v_began, .int v_last, .int v_rounds, .ref a_read, .ref a_times, .ref a_gains, .int v_seed, .ref a_image, .ref a_isKept])), (a_rows, .inl (cI, 20, .inl v_rows))] H := hP
              have hD : va_D A [(a_this, .inr (7, [.ref a_start, .ref a_mass, .ref a_rows, .ref a_told, .int v_signs, .ref a_sign, .int v_many, .ref a_kept, .ref a_ended, .ref a_cell, .ref a_loss, .long v_left, .long v_rime, .long v_frost, .int v_began, .int v_last, .int v_rounds, .ref a_read, .ref a_times, .ref a_gains, .int v_seed, .ref a_image, .ref a_isKept])), (a_rows, .inl (cI, 20, .inl v_rows))] := hD
              refine lv_aload_n hx hb dX7_row_70 rfl (lv_at hl 0 rfl) ?_
              refine lv_iload_n hx hb dX7_row_71 rfl (lv_at hl 1 rfl) ?_
              refine lv_lload_n hx hb dX7_row_72 rfl (lv_at hl 2 rfl) ?_
              refine fx_callVV (As := [.int p_p, .long p_row]) (rest := []) (wr := []) ⟨hx, hb, hml, hown, hts⟩ hG hGs (k_X7_layRow l G hG D cI cJ cZ cH a_start a_mass a_rows a_told a_sign a_kept a_ended a_cell a_loss a_read a_times a_gains a_image a_isKept a_this v_signs v_many v_left v_rime v_frost v_began v_last v_rounds v_seed v_rows p_p p_row  ((fy_wi c4).1) ((fy_wi c4).2)) (cwV 2 hts gX7_row_X7_layRow rfl rfl rfl (by decide +kernel) ⟨by decide, by decide⟩) hK hP hD hS hA [0, 1] [] rfl rfl (by decide) (by decide) (by decide) 0 rfl rfl rfl rfl hl.1 (Nat.le_of_ble_eq_true rfl) dX7_row_73 (Nat.zero_le _) (Nat.zero_le _) (fun H locs hP hD hS => ?_)
              have hP : va_P D vwCl [(a_this, .inr (7, [.ref a_start, .ref a_mass, .ref a_rows, .ref a_told, .int v_signs, .ref a_sign, .int v_many, .ref a_kept, .ref a_ended, .ref a_cell, .ref a_loss, .long v_left, .long v_rime, .long v_frost, .int v_began, .int v_last, .int v_rounds, .ref a_read, .ref a_times, .ref a_gains, .int v_seed, .ref a_image, .ref a_isKept])), (a_rows, .inl (cI, 20, .inl (X7_layRow_o_rows v_rows p_p p_row)))] H := hP
              have hD : va_D A [(a_this, .inr (7, [.ref a_start, .ref a_mass, .ref a_rows, .ref a_told, .int v_signs, .ref a_sign, .int v_many, .ref a_kept, .ref a_ended, .ref a_cell, .ref a_loss, .long v_left, .long v_rime, .long v_frost, .int v_began, .int v_last, .int v_rounds, .ref a_read, .ref a_times, .ref a_gains, .int v_seed, .ref a_image, .ref a_isKept])), (a_rows, .inl (cI, 20, .inl (X7_layRow_o_rows v_rows p_p p_row)))] := hD
              refine lv_lload hx hb dX7_row_76 (lv_at hl 3 rfl) ?_
              exact hret _ _ _ _ _ _ dX7_row_78 (by simp only [X7_row, if_neg c4, if_neg c13, if_pos c21, if_pos c39]) (by simp only [X7_row_o_rows, if_neg c4, if_neg c13, if_pos c21, if_pos c39]) hP hD hS
            · have n39 : ¬ (10 ≤ j35) := fun h9 => c39 ((fx_leN (x := (10 : Int32)) (y := (nI j35)) (a := 10) (b := j35) rfl rfl (by omega) (by omega)).mpr h9)
              refine lv_ldc2 (v := 10) hx hb hown k64 dX7_row_42 ?_
              refine lv_lload hx hb dX7_row_45 (lv_at hl 3 rfl) ?_
              refine lv_lmul hx hb dX7_row_47 ?_
              refine lv_aload_n hx hb dX7_row_48 rfl (lv_at hl 0 rfl) ?_
              refine va_get (D := D) (ci := 7) (v := .ref a_rows) (C := RX7) (T := TX7) (N := 23) hx hb hts iX7 hown hK hP 0 rfl rfl 2 (by decide) f16 (fun _ h9 => h9) rfl dX7_row_49 ?_
              refine lv_bipush (v := 10) hx hb dX7_row_52 (by decide) ?_
              refine lv_iload_n hx hb dX7_row_54 rfl (lv_at hl 1 rfl) ?_
              refine lv_imul hx hb dX7_row_55 ?_
              refine W.eq (g2 := F0 m 56 ls (.int (nI (10 * p_p.toNatClampNeg)) :: [.ref a_rows, .long ((10 : Int64) * x35_l4)])) (congrArg (fun z9 : Int32 => F0 m 56 ls (.int z9 :: [.ref a_rows, .long ((10 : Int64) * x35_l4)])) (fx_mulN (x := (10 : Int32)) (y := p_p) (a := 10) (b := p_p.toNatClampNeg) rfl e_p)) ?_
              refine lv_iload hx hb dX7_row_56 (lv_at hl 4 rfl) ?_
              refine lv_iadd hx hb dX7_row_58 ?_
              refine W.eq (g2 := F0 m 59 ls (.int (nI ((10 * p_p.toNatClampNeg) + j35)) :: [.ref a_rows, .long ((10 : Int64) * x35_l4)])) (congrArg (fun z9 : Int32 => F0 m 59 ls (.int z9 :: [.ref a_rows, .long ((10 : Int64) * x35_l4)])) (fx_addN (x := nI (10 * p_p.toNatClampNeg)) (y := nI j35) (a := (10 * p_p.toNatClampNeg)) (b := j35) rfl rfl)) ?_
              refine fx_iald hx hb hK hP 1 0 rfl rfl ((10 * p_p.toNatClampNeg) + j35) rfl (by omega) (by decide) dX7_row_59 ?_
              refine lv_i2l hx hb dX7_row_60 rfl ?_
              refine lv_ladd hx hb dX7_row_61 ?_
              refine lv_lstore (lv' := [(4, .long (((10 : Int64) * x35_l4) + (v_rows ((10 * p_p.toNatClampNeg) + j35)).toInt64)), (0, .ref a_this), (1, .int p_p), (2, .long p_row), (6, .int (nI j35))]) hx hb dX7_row_62 hl (by decide) rfl (fun ls hl => ?_)
              refine lv_iinc (v := nI (j35 + 1)) (lv' := [(6, .int (nI (j35 + 1))), (4, .long (((10 : Int64) * x35_l4) + (v_rows ((10 * p_p.toNatClampNeg) + j35)).toInt64)), (0, .ref a_this), (1, .int p_p), (2, .long p_row)]) hx hb dX7_row_64 hl (k := 4) rfl (fx_inc _ 1) (by decide) rfl (fun ls hl => ?_)
              refine lv_goto (tgt := 35) hx hb dX7_row_67 (by decide) ?_
              exact ih35 (j35 + 1) (((10 : Int64) * x35_l4) + (v_rows ((10 * p_p.toNatClampNeg) + j35)).toInt64) (by omega) (by omega)  (by simp only [X7_row_L35, hx35, if_neg c4, if_neg c13, if_pos c21, if_neg c39]) _ _ hP hD hS ls (lv_sub hl [2, 3, 4, 1, 0] rfl)
        exact L35 (10 + 1) 0 (0 : Int64) (by omega) (by omega)  rfl _ _ hP hD hS ls (lv_sub hl [2, 3, 4, 1, 0] rfl)
      · refine lv_ldc2 (v := (-2)) hx hb hown k74 dX7_row_25 ?_
        exact hret _ _ _ _ _ _ dX7_row_28 (by simp only [X7_row, if_neg c4, if_neg c13, if_neg c21]) (by simp only [X7_row_o_rows, if_neg c4, if_neg c13, if_neg c21]) hP hD hS
  · refine lv_ldc2 (v := (-1)) hx hb hown k70 dX7_row_7 ?_
    exact hret _ _ _ _ _ _ dX7_row_10 (by simp only [X7_row, if_pos c4]) (by simp only [X7_row_o_rows, if_pos c4]) hP hD hS
