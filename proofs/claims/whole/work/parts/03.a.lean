def X6_within_m15_s0 (p_v : Int32) (p_lo : Int32) (p_hi : Int32) : Int32 := (if p_v < p_lo then (0 : Int32) else (if p_hi < p_v then (0 : Int32) else (1 : Int32)))
def X6_within (p_v : Int32) (p_lo : Int32) (p_hi : Int32) : Int32 := (X6_within_m15_s0 p_v p_lo p_hi)
abbrev rX6_within : Room := { frames := 0, cells := 0, slots := 0, locals := 0 }
theorem b_X6_within (p_v : Int32) (p_lo : Int32) (p_hi : Int32) : fx_b (X6_within p_v p_lo p_hi) := by
  unfold X6_within
  try unfold X6_within_m15_s0
  repeat' split
  all_goals first | exact Or.inl rfl | exact Or.inr rfl
set_option maxHeartbeats 8000000 in
set_option maxRecDepth 100000 in
theorem k_X6_within (l : Launch) (G : fxE) (hG : fxGood G) (D : va_G) (cI cJ cZ cH : ClassId) (p_v : Int32) (p_lo : Int32) (p_hi : Int32) : MetI l yX6_within wsX6_within rX6_within G D (tyL cI cJ cZ cH) [.int p_v, .int p_lo, .int p_hi] [] (X6_within p_v p_lo p_hi) [] := by
  refine fx_startI (cc := cX6_within) (n := 3) (rt := .boolean) (plainFor_of_name (by decide)) rfl (Nat.le_of_ble_eq_true rfl) (fx_nb (b_X6_within p_v p_lo p_hi)) ?_
  intro p e s m args below meth c A Q ls hx hb hml hown hts hA hGs hK hP hD hS hl hret
  have hl : lv_has ls 3 [(0, .int p_v), (1, .int p_lo), (2, .int p_hi)] := hl
  have C15 : ∀ (x15_s0 : Int32), (X6_within_m15_s0 p_v p_lo p_hi) = x15_s0 → ∀ (H : Heap) (locs : List Loc), va_P D vwCl [] H → va_D A [] → va_S A s.heap H locs → ∀ (ls : Array Slot), lv_has ls 3 [] → W p l e rX6_within s m args below meth c H locs 0 0 Q (F0 m 15 ls [.int x15_s0]) := by
    intro x15_s0 hx15_s0 H locs hP hD hS ls hl
    subst hx15_s0
    exact hret _ _ _ _ _ _ dX6_within_15 (by simp only [X6_within]) rfl hP hD hS
  refine lv_iload_n hx hb dX6_within_0 rfl (lv_at hl 0 rfl) ?_
  refine lv_iload_n hx hb dX6_within_1 rfl (lv_at hl 1 rfl) ?_
  refine lv_icmp_lt (tgt := 14) hx hb dX6_within_2 (by decide) (fun c2 => ?_) (fun c2 => ?_)
  · refine lv_iconst (v := 0) hx hb dX6_within_14 (by decide) ?_
    exact C15 (0 : Int32) (by simp only [X6_within_m15_s0, if_pos c2]) _ _ hP hD hS ls (lv_sub hl [] rfl)
  · refine lv_iload_n hx hb dX6_within_5 rfl (lv_at hl 0 rfl) ?_
    refine lv_iload_n hx hb dX6_within_6 rfl (lv_at hl 2 rfl) ?_
    refine lv_icmp_gt (tgt := 14) hx hb dX6_within_7 (by decide) (fun c7 => ?_) (fun c7 => ?_)
    · refine lv_iconst (v := 0) hx hb dX6_within_14 (by decide) ?_
      exact C15 (0 : Int32) (by simp only [X6_within_m15_s0, if_neg c2, if_pos c7]) _ _ hP hD hS ls (lv_sub hl [] rfl)
    · refine lv_iconst (v := 1) hx hb dX6_within_10 (by decide) ?_
      refine lv_goto (tgt := 15) hx hb dX6_within_11 (by decide) ?_
      exact C15 (1 : Int32) (by simp only [X6_within_m15_s0, if_neg c2, if_neg c7]) _ _ hP hD hS ls (lv_sub hl [] rfl)

theorem fx_wi {x lo hi : Int32} (h : ¬ X6_within x lo hi = 0) : lo ≤ x ∧ x ≤ hi := by
  unfold X6_within X6_within_m15_s0 at h
  split at h
  · exact absurd rfl h
  · split at h
    · exact absurd rfl h
    · rename_i h1 h2
      exact ⟨Int32.not_lt.mp h1, Int32.not_lt.mp h2⟩
theorem fx_w1 {x : Int32} (h : ¬ X6_within x 0 1 = 0) : vp_in x 2 := fx_nn (N := 1) (n := 1) rfl (fx_wi h).1 (fx_wi h).2
theorem fx_w3 {x : Int32} (h : ¬ X6_within x 0 3 = 0) : vp_in x 4 := fx_nn (N := 3) (n := 3) rfl (fx_wi h).1 (fx_wi h).2
theorem fx_vlt {x N : Int32} {n : Nat} (hN : N.toInt = n) (h0 : 0 ≤ x) (h1 : x < N) : vp_in x n := by
  rw [vp_in_iff]
  have a := Int32.le_iff_toInt_le.mp h0
  have b := Int32.lt_iff_toInt_lt.mp h1
  rw [hN] at b
  have z : (0 : Int32).toInt = 0 := rfl
  rw [z] at a
  exact ⟨a, b⟩
theorem fx_addN {x y : Int32} {a b : Nat} (hx : x = nI a) (hy : y = nI b) : x + y = nI (a + b) := by subst hx; subst hy; exact nI_add a b
theorem fx_mulN {x y : Int32} {a b : Nat} (hx : x = nI a) (hy : y = nI b) : x * y = nI (a * b) := by subst hx; subst hy; exact pk_mul a b
theorem fx_tl (p : Int32) : p.toNatClampNeg < 2 ^ 31 := by
  have h := p.toInt_lt
  unfold Int32.toNatClampNeg
  omega
theorem fx_ltT {p : Int32} {j : Nat} (hj : j < 2 ^ 31) (h : ¬ p ≤ nI j) : j < p.toNatClampNeg := by
  have a := Int32.lt_iff_toInt_lt.mp (Int32.not_le.mp h)
  rw [nI_toInt hj] at a
  unfold Int32.toNatClampNeg
  omega
theorem fx_mx (x : Int32) : ¬ (if (10000 : Int32) < x then x else 10000) = 0 := by
  split
  · rename_i h
    intro h0
    subst h0
    exact absurd h (by decide)
  · decide
theorem fx_ne1 {x : Int32} (h : 1 ≤ x) : ¬ x = 0 := by
  intro h0
  subst h0
  exact absurd h (by decide)

def X6_isPail (p_v : Int32) : Int32 := (X6_within p_v (0 : Int32) (1 : Int32))
abbrev rX6_isPail : Room := { frames := 1, cells := 0, slots := 0, locals := 22 }
theorem b_X6_isPail (p_v : Int32) : fx_b (X6_isPail p_v) := by
  unfold X6_isPail
  try unfold X6_isPail
  repeat' split
  all_goals first | exact Or.inl rfl | exact Or.inr rfl | apply b_X6_within
set_option maxHeartbeats 8000000 in
set_option maxRecDepth 100000 in
theorem k_X6_isPail (l : Launch) (G : fxE) (hG : fxGood G) (D : va_G) (cI cJ cZ cH : ClassId) (p_v : Int32) : MetI l yX6_isPail wsX6_isPail rX6_isPail G D (tyL cI cJ cZ cH) [.int p_v] [] (X6_isPail p_v) [] := by
  refine fx_startI (cc := cX6_isPail) (n := 1) (rt := .boolean) (plainFor_of_name (by decide)) rfl (Nat.le_of_ble_eq_true rfl) (fx_nb (b_X6_isPail p_v)) ?_
  intro p e s m args below meth c A Q ls hx hb hml hown hts hA hGs hK hP hD hS hl hret
  have hl : lv_has ls 1 [(0, .int p_v)] := hl
  refine lv_iload_n hx hb dX6_isPail_0 rfl (lv_at hl 0 rfl) ?_
  refine lv_iconst (v := 0) hx hb dX6_isPail_1 (by decide) ?_
  refine lv_iconst (v := 1) hx hb dX6_isPail_2 (by decide) ?_
  refine fx_callSI (As := [.int p_v, .int (0 : Int32), .int (1 : Int32)]) (rest := []) (wr := []) ⟨hx, hb, hml, hown, hts⟩ hG hGs (k_X6_within l G hG D cI cJ cZ cH p_v (0 : Int32) (1 : Int32)  ) (va_cwS 3 hts gX6_isPail_X6_within rfl rfl rfl (by decide +kernel) ⟨by decide, by decide⟩) hK hP hD hS hA [] [] rfl rfl (by decide) (by decide) (by decide) rfl rfl hl.1 (Nat.le_of_ble_eq_true rfl) dX6_isPail_3 (Nat.zero_le _) (Nat.zero_le _) (fun H locs hP hD hS => ?_)
  have hP : va_P D vwCl [] H := hP
  have hD : va_D A [] := hD
  exact hret _ _ _ _ _ _ dX6_isPail_6 (by simp only [X6_isPail]) rfl hP hD hS

def X6_isDegree (p_v : Int32) : Int32 := (X6_within p_v (0 : Int32) (9 : Int32))
abbrev rX6_isDegree : Room := { frames := 1, cells := 0, slots := 0, locals := 22 }
theorem b_X6_isDegree (p_v : Int32) : fx_b (X6_isDegree p_v) := by
  unfold X6_isDegree
  try unfold X6_isDegree
  repeat' split
  all_goals first | exact Or.inl rfl | exact Or.inr rfl | apply b_X6_within
set_option maxHeartbeats 8000000 in
set_option maxRecDepth 100000 in
theorem k_X6_isDegree (l : Launch) (G : fxE) (hG : fxGood G) (D : va_G) (cI cJ cZ cH : ClassId) (p_v : Int32) : MetI l yX6_isDegree wsX6_isDegree rX6_isDegree G D (tyL cI cJ cZ cH) [.int p_v] [] (X6_isDegree p_v) [] := by
  refine fx_startI (cc := cX6_isDegree) (n := 1) (rt := .boolean) (plainFor_of_name (by decide)) rfl (Nat.le_of_ble_eq_true rfl) (fx_nb (b_X6_isDegree p_v)) ?_
  intro p e s m args below meth c A Q ls hx hb hml hown hts hA hGs hK hP hD hS hl hret
  have hl : lv_has ls 1 [(0, .int p_v)] := hl
  refine lv_iload_n hx hb dX6_isDegree_0 rfl (lv_at hl 0 rfl) ?_
  refine lv_iconst (v := 0) hx hb dX6_isDegree_1 (by decide) ?_
  refine lv_bipush (v := 9) hx hb dX6_isDegree_2 (by decide) ?_
  refine fx_callSI (As := [.int p_v, .int (0 : Int32), .int (9 : Int32)]) (rest := []) (wr := []) ⟨hx, hb, hml, hown, hts⟩ hG hGs (k_X6_within l G hG D cI cJ cZ cH p_v (0 : Int32) (9 : Int32)  ) (va_cwS 3 hts gX6_isDegree_X6_within rfl rfl rfl (by decide +kernel) ⟨by decide, by decide⟩) hK hP hD hS hA [] [] rfl rfl (by decide) (by decide) (by decide) rfl rfl hl.1 (Nat.le_of_ble_eq_true rfl) dX6_isDegree_4 (Nat.zero_le _) (Nat.zero_le _) (fun H locs hP hD hS => ?_)
  have hP : va_P D vwCl [] H := hP
  have hD : va_D A [] := hD
  exact hret _ _ _ _ _ _ dX6_isDegree_7 (by simp only [X6_isDegree]) rfl hP hD hS

def X6_isMeaning (p_v : Int32) : Int32 := (X6_within p_v (0 : Int32) (2 : Int32))
abbrev rX6_isMeaning : Room := { frames := 1, cells := 0, slots := 0, locals := 22 }
theorem b_X6_isMeaning (p_v : Int32) : fx_b (X6_isMeaning p_v) := by
  unfold X6_isMeaning
  try unfold X6_isMeaning
  repeat' split
  all_goals first | exact Or.inl rfl | exact Or.inr rfl | apply b_X6_within
set_option maxHeartbeats 8000000 in
set_option maxRecDepth 100000 in
theorem k_X6_isMeaning (l : Launch) (G : fxE) (hG : fxGood G) (D : va_G) (cI cJ cZ cH : ClassId) (p_v : Int32) : MetI l yX6_isMeaning wsX6_isMeaning rX6_isMeaning G D (tyL cI cJ cZ cH) [.int p_v] [] (X6_isMeaning p_v) [] := by
  refine fx_startI (cc := cX6_isMeaning) (n := 1) (rt := .boolean) (plainFor_of_name (by decide)) rfl (Nat.le_of_ble_eq_true rfl) (fx_nb (b_X6_isMeaning p_v)) ?_
  intro p e s m args below meth c A Q ls hx hb hml hown hts hA hGs hK hP hD hS hl hret
  have hl : lv_has ls 1 [(0, .int p_v)] := hl
  refine lv_iload_n hx hb dX6_isMeaning_0 rfl (lv_at hl 0 rfl) ?_
  refine lv_iconst (v := 0) hx hb dX6_isMeaning_1 (by decide) ?_
  refine lv_iconst (v := 2) hx hb dX6_isMeaning_2 (by decide) ?_
  refine fx_callSI (As := [.int p_v, .int (0 : Int32), .int (2 : Int32)]) (rest := []) (wr := []) ⟨hx, hb, hml, hown, hts⟩ hG hGs (k_X6_within l G hG D cI cJ cZ cH p_v (0 : Int32) (2 : Int32)  ) (va_cwS 3 hts gX6_isMeaning_X6_within rfl rfl rfl (by decide +kernel) ⟨by decide, by decide⟩) hK hP hD hS hA [] [] rfl rfl (by decide) (by decide) (by decide) rfl rfl hl.1 (Nat.le_of_ble_eq_true rfl) dX6_isMeaning_3 (Nat.zero_le _) (Nat.zero_le _) (fun H locs hP hD hS => ?_)
  have hP : va_P D vwCl [] H := hP
  have hD : va_D A [] := hD
  exact hret _ _ _ _ _ _ dX6_isMeaning_6 (by simp only [X6_isMeaning]) rfl hP hD hS

def X6_isFirst (p_v : Int32) : Int32 := (X6_within p_v (0 : Int32) (2 : Int32))
abbrev rX6_isFirst : Room := { frames := 1, cells := 0, slots := 0, locals := 22 }
theorem b_X6_isFirst (p_v : Int32) : fx_b (X6_isFirst p_v) := by
  unfold X6_isFirst
  try unfold X6_isFirst
  repeat' split
  all_goals first | exact Or.inl rfl | exact Or.inr rfl | apply b_X6_within
set_option maxHeartbeats 8000000 in
set_option maxRecDepth 100000 in
theorem k_X6_isFirst (l : Launch) (G : fxE) (hG : fxGood G) (D : va_G) (cI cJ cZ cH : ClassId) (p_v : Int32) : MetI l yX6_isFirst wsX6_isFirst rX6_isFirst G D (tyL cI cJ cZ cH) [.int p_v] [] (X6_isFirst p_v) [] := by
  refine fx_startI (cc := cX6_isFirst) (n := 1) (rt := .boolean) (plainFor_of_name (by decide)) rfl (Nat.le_of_ble_eq_true rfl) (fx_nb (b_X6_isFirst p_v)) ?_
  intro p e s m args below meth c A Q ls hx hb hml hown hts hA hGs hK hP hD hS hl hret
  have hl : lv_has ls 1 [(0, .int p_v)] := hl
  refine lv_iload_n hx hb dX6_isFirst_0 rfl (lv_at hl 0 rfl) ?_
  refine lv_iconst (v := 0) hx hb dX6_isFirst_1 (by decide) ?_
  refine lv_iconst (v := 2) hx hb dX6_isFirst_2 (by decide) ?_
  refine fx_callSI (As := [.int p_v, .int (0 : Int32), .int (2 : Int32)]) (rest := []) (wr := []) ⟨hx, hb, hml, hown, hts⟩ hG hGs (k_X6_within l G hG D cI cJ cZ cH p_v (0 : Int32) (2 : Int32)  ) (va_cwS 3 hts gX6_isFirst_X6_within rfl rfl rfl (by decide +kernel) ⟨by decide, by decide⟩) hK hP hD hS hA [] [] rfl rfl (by decide) (by decide) (by decide) rfl rfl hl.1 (Nat.le_of_ble_eq_true rfl) dX6_isFirst_3 (Nat.zero_le _) (Nat.zero_le _) (fun H locs hP hD hS => ?_)
  have hP : va_P D vwCl [] H := hP
  have hD : va_D A [] := hD
  exact hret _ _ _ _ _ _ dX6_isFirst_6 (by simp only [X6_isFirst]) rfl hP hD hS

def X6_isPart (p_v : Int32) : Int32 := (X6_within p_v (0 : Int32) (1 : Int32))
abbrev rX6_isPart : Room := { frames := 1, cells := 0, slots := 0, locals := 22 }
theorem b_X6_isPart (p_v : Int32) : fx_b (X6_isPart p_v) := by
  unfold X6_isPart
  try unfold X6_isPart
  repeat' split
  all_goals first | exact Or.inl rfl | exact Or.inr rfl | apply b_X6_within
set_option maxHeartbeats 8000000 in
set_option maxRecDepth 100000 in
theorem k_X6_isPart (l : Launch) (G : fxE) (hG : fxGood G) (D : va_G) (cI cJ cZ cH : ClassId) (p_v : Int32) : MetI l yX6_isPart wsX6_isPart rX6_isPart G D (tyL cI cJ cZ cH) [.int p_v] [] (X6_isPart p_v) [] := by
  refine fx_startI (cc := cX6_isPart) (n := 1) (rt := .boolean) (plainFor_of_name (by decide)) rfl (Nat.le_of_ble_eq_true rfl) (fx_nb (b_X6_isPart p_v)) ?_
  intro p e s m args below meth c A Q ls hx hb hml hown hts hA hGs hK hP hD hS hl hret
  have hl : lv_has ls 1 [(0, .int p_v)] := hl
  refine lv_iload_n hx hb dX6_isPart_0 rfl (lv_at hl 0 rfl) ?_
  refine lv_iconst (v := 0) hx hb dX6_isPart_1 (by decide) ?_
  refine lv_iconst (v := 1) hx hb dX6_isPart_2 (by decide) ?_
  refine fx_callSI (As := [.int p_v, .int (0 : Int32), .int (1 : Int32)]) (rest := []) (wr := []) ⟨hx, hb, hml, hown, hts⟩ hG hGs (k_X6_within l G hG D cI cJ cZ cH p_v (0 : Int32) (1 : Int32)  ) (va_cwS 3 hts gX6_isPart_X6_within rfl rfl rfl (by decide +kernel) ⟨by decide, by decide⟩) hK hP hD hS hA [] [] rfl rfl (by decide) (by decide) (by decide) rfl rfl hl.1 (Nat.le_of_ble_eq_true rfl) dX6_isPart_3 (Nat.zero_le _) (Nat.zero_le _) (fun H locs hP hD hS => ?_)
  have hP : va_P D vwCl [] H := hP
  have hD : va_D A [] := hD
  exact hret _ _ _ _ _ _ dX6_isPart_6 (by simp only [X6_isPart]) rfl hP hD hS

def X6_earlier (p_h : Int32) (p_c : Int32) : Int32 := (if p_c ≤ p_h then (if p_h ≤ p_c then (2 : Int32) else (1 : Int32)) else (0 : Int32))
abbrev rX6_earlier : Room := { frames := 0, cells := 0, slots := 0, locals := 0 }
set_option maxHeartbeats 8000000 in
set_option maxRecDepth 100000 in
theorem k_X6_earlier (l : Launch) (G : fxE) (hG : fxGood G) (D : va_G) (cI cJ cZ cH : ClassId) (p_h : Int32) (p_c : Int32) : MetI l yX6_earlier wsX6_earlier rX6_earlier G D (tyL cI cJ cZ cH) [.int p_h, .int p_c] [] (X6_earlier p_h p_c) [] := by
  refine fx_startI (cc := cX6_earlier) (n := 2) (rt := .int) (plainFor_of_name (by decide)) rfl (Nat.le_of_ble_eq_true rfl) rfl ?_
  intro p e s m args below meth c A Q ls hx hb hml hown hts hA hGs hK hP hD hS hl hret
  have hl : lv_has ls 2 [(0, .int p_h), (1, .int p_c)] := hl
  refine lv_iload_n hx hb dX6_earlier_0 rfl (lv_at hl 0 rfl) ?_
  refine lv_iload_n hx hb dX6_earlier_1 rfl (lv_at hl 1 rfl) ?_
  refine lv_icmp_ge (tgt := 7) hx hb dX6_earlier_2 (by decide) (fun c2 => ?_) (fun c2 => ?_)
  · refine lv_iload_n hx hb dX6_earlier_7 rfl (lv_at hl 0 rfl) ?_
    refine lv_iload_n hx hb dX6_earlier_8 rfl (lv_at hl 1 rfl) ?_
    refine lv_icmp_le (tgt := 16) hx hb dX6_earlier_9 (by decide) (fun c9 => ?_) (fun c9 => ?_)
    · refine lv_iconst (v := 2) hx hb dX6_earlier_16 (by decide) ?_
      exact hret _ _ _ _ _ _ dX6_earlier_17 (by simp only [X6_earlier, if_pos c2, if_pos c9]) rfl hP hD hS
    · refine lv_iconst (v := 1) hx hb dX6_earlier_12 (by decide) ?_
      refine lv_goto (tgt := 17) hx hb dX6_earlier_13 (by decide) ?_
      exact hret _ _ _ _ _ _ dX6_earlier_17 (by simp only [X6_earlier, if_pos c2, if_neg c9]) rfl hP hD hS
  · refine lv_iconst (v := 0) hx hb dX6_earlier_5 (by decide) ?_
    exact hret _ _ _ _ _ _ dX6_earlier_6 (by simp only [X6_earlier, if_neg c2]) rfl hP hD hS

def X6_nextDraw (p_d : Int32) : Int32 := (((p_d * (75 : Int32)) + (74 : Int32)) - ((p_d * (75 : Int32)) + (74 : Int32)) / (65537 : Int32) * (65537 : Int32))
abbrev rX6_nextDraw : Room := { frames := 0, cells := 0, slots := 0, locals := 0 }
set_option maxHeartbeats 8000000 in
set_option maxRecDepth 100000 in
theorem k_X6_nextDraw (l : Launch) (G : fxE) (hG : fxGood G) (D : va_G) (cI cJ cZ cH : ClassId) (p_d : Int32) : MetI l yX6_nextDraw wsX6_nextDraw rX6_nextDraw G D (tyL cI cJ cZ cH) [.int p_d] [] (X6_nextDraw p_d) [] := by
  refine fx_startI (cc := cX6_nextDraw) (n := 1) (rt := .int) (plainFor_of_name (by decide)) rfl (Nat.le_of_ble_eq_true rfl) rfl ?_
  intro p e s m args below meth c A Q ls hx hb hml hown hts hA hGs hK hP hD hS hl hret
  have hl : lv_has ls 1 [(0, .int p_d)] := hl
  have k222 := hts (.constant RX6 222 65537) (by decide +kernel)
  refine lv_iload_n hx hb dX6_nextDraw_0 rfl (lv_at hl 0 rfl) ?_
  refine lv_bipush (v := 75) hx hb dX6_nextDraw_1 (by decide) ?_
  refine lv_imul hx hb dX6_nextDraw_3 ?_
  refine lv_bipush (v := 74) hx hb dX6_nextDraw_4 (by decide) ?_
  refine lv_iadd hx hb dX6_nextDraw_6 ?_
  refine lv_ldc (v := 65537) hx hb hown k222 dX6_nextDraw_7 ?_
  refine lv_irem hx hb dX6_nextDraw_9 (by decide) ?_
  exact hret _ _ _ _ _ _ dX6_nextDraw_10 (by simp only [X6_nextDraw]) rfl hP hD hS

def X6_exchange (v_values : Nat → Int32) (p_place : Int32) : Int32 := (v_values p_place.toNatClampNeg)
def X6_exchange_o_values (v_values : Nat → Int32) (p_place : Int32) (p_v : Int32) : Nat → Int32 := (upd v_values p_place.toNatClampNeg p_v)
abbrev rX6_exchange : Room := { frames := 0, cells := 0, slots := 0, locals := 0 }
set_option maxHeartbeats 8000000 in
set_option maxRecDepth 100000 in
theorem k_X6_exchange (l : Launch) (G : fxE) (hG : fxGood G) (D : va_G) (cI cJ cZ cH : ClassId) (a_values : Nat) (N_values : Nat) (v_values : Nat → Int32) (p_place : Int32) (p_v : Int32) (hp : vp_in p_place N_values) : MetI l yX6_exchange wsX6_exchange rX6_exchange G D (tyL cI cJ cZ cH) [.ref a_values, .int p_place, .int p_v] [(a_values, .inl (cI, N_values, .inl v_values))] (X6_exchange v_values p_place) [(a_values, .inl (cI, N_values, .inl (X6_exchange_o_values v_values p_place p_v)))] := by
  refine fx_startI (cc := cX6_exchange) (n := 4) (rt := .int) (plainFor_of_name (by decide)) rfl (Nat.le_of_ble_eq_true rfl) rfl ?_
  intro p e s m args below meth c A Q ls hx hb hml hown hts hA hGs hK hP hD hS hl hret
  have hl : lv_has ls 4 [(0, .ref a_values), (1, .int p_place), (2, .int p_v)] := hl
  refine lv_aload_n hx hb dX6_exchange_0 rfl (lv_at hl 0 rfl) ?_
  refine lv_iload_n hx hb dX6_exchange_1 rfl (lv_at hl 1 rfl) ?_
  refine va_iald hx hb hK hP 0 0 rfl rfl hp dX6_exchange_2 ?_
  refine lv_istore_n (lv' := [(3, .int (v_values p_place.toNatClampNeg)), (0, .ref a_values), (1, .int p_place), (2, .int p_v)]) hx hb dX6_exchange_3 rfl hl (by decide) rfl (fun ls hl => ?_)
  refine lv_aload_n hx hb dX6_exchange_4 rfl (lv_at hl 1 rfl) ?_
  refine lv_iload_n hx hb dX6_exchange_5 rfl (lv_at hl 2 rfl) ?_
  refine lv_iload_n hx hb dX6_exchange_6 rfl (lv_at hl 3 rfl) ?_
  refine va_iast hx hb hK hP hD hS 0 0 rfl rfl hp dX6_exchange_7 (fun H locs hP hD hS => ?_)
  have hP : va_P D vwCl [(a_values, .inl (cI, N_values, .inl (upd v_values p_place.toNatClampNeg p_v)))] H := hP
  have hD : va_D A [(a_values, .inl (cI, N_values, .inl (upd v_values p_place.toNatClampNeg p_v)))] := hD
  refine lv_iload_n hx hb dX6_exchange_8 rfl (lv_at hl 0 rfl) ?_
  exact hret _ _ _ _ _ _ dX6_exchange_9 (by simp only [X6_exchange]) (by simp only [X6_exchange_o_values]) hP hD hS
