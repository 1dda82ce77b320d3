def X6_within_m15_s0 (p_v : Int32) (p_lo : Int32) (p_hi : Int32) : Int32 := (if p_v < p_lo then (0 : Int32) else (if p_hi < p_v then (0 : Int32) else (1 : Int32)))
def X6_within (p_v : Int32) (p_lo : Int32) (p_hi : Int32) : Int32 := (X6_within_m15_s0 p_v p_lo p_hi)
abbrev rX6_within : Room := { frames := 0, cells := 0, slots := 0, locals := 0 }
theorem b_X6_within (p_v : Int32) (p_lo : Int32) (p_hi : Int32) : fx_b (X6_within p_v p_lo p_hi) := by
  unfold X6_within
  try unfold X6_within_m15_s0
  repeat' split
  all_goals first | exact Or.inl rfl | exact Or.inr rfl
set_option maxHeartbeats 8000000 in
set_option maxRecDepth 100000 in
theorem k_X6_within (l : Launch) (G : fxE) (hG : fxGood G) (D : va_G) (cI cJ cZ cH : ClassId) (p_v : Int32) (p_lo : Int32) (p_hi : Int32) : MetI l yX6_within wsX6_within rX6_within G D (tyL cI cJ cZ cH) [.int p_v, .int p_lo, .int p_hi] [] (X6_within p_v p_lo p_hi) [] := by
  refine fx_startI (cc := cX6_within) (n := 3) (rt := .boolean) (by decide) rfl (by decide) (fx_nb (b_X6_within p_v p_lo p_hi)) ?_
  intro p e s m args below meth c A Q ls hx hb hml hown hts hA hGs hK hP hD hS hl hret
  have hl : lv_has ls 3 [(0, .int p_v), (1, .int p_lo), (2, .int p_hi)] := hl
  have C15 : ∀ (x15_s0 : Int32), (X6_within_m15_s0 p_v p_lo p_hi) = x15_s0 → ∀ (H : Heap) (locs : List Loc), va_P D vwCl [] H → va_D A [] → va_S A s.heap H locs → ∀ (ls : Array Slot), lv_has ls 3 [] → W p l e rX6_within s m args below meth c H locs 0 0 Q (F0 m 15 ls [.int x15_s0]) := by
    intro x15_s0 hx15_s0 H locs hP hD hS ls hl
    subst hx15_s0
    exact hret _ _ _ _ _ _ dX6_within_15 (by simp only [X6_within]) rfl hP hD hS
  refine lv_iload_n hx hb dX6_within_0 rfl (lv_at hl 0 rfl) ?_
  refine lv_iload_n hx hb dX6_within_1 rfl (lv_at hl 1 rfl) ?_
  refine lv_icmp_lt (tgt := 14) hx hb dX6_within_2 (by decide) (fun c2_4 => ?_) (fun c2_4 => ?_)
  · refine lv_iconst (v := 0) hx hb dX6_within_14 (by decide) ?_
    exact C15 (0 : Int32) (by simp only [X6_within_m15_s0, if_pos c2_4]) _ _ hP hD hS ls (lv_sub hl [] rfl)
  · refine lv_iload_n hx hb dX6_within_5 rfl (lv_at hl 0 rfl) ?_
    refine lv_iload_n hx hb dX6_within_6 rfl (lv_at hl 2 rfl) ?_
    refine lv_icmp_gt (tgt := 14) hx hb dX6_within_7 (by decide) (fun c7_8 => ?_) (fun c7_8 => ?_)
    · refine lv_iconst (v := 0) hx hb dX6_within_14 (by decide) ?_
      exact C15 (0 : Int32) (by simp only [X6_within_m15_s0, if_neg c2_4, if_pos c7_8]) _ _ hP hD hS ls (lv_sub hl [] rfl)
    · refine lv_iconst (v := 1) hx hb dX6_within_10 (by decide) ?_
      refine lv_goto (tgt := 15) hx hb dX6_within_11 (by decide) ?_
      exact C15 (1 : Int32) (by simp only [X6_within_m15_s0, if_neg c2_4, if_neg c7_8]) _ _ hP hD hS ls (lv_sub hl [] rfl)

def X6_isPail (p_v : Int32) : Int32 := (X6_within p_v (0 : Int32) (1 : Int32))
abbrev rX6_isPail : Room := { frames := 1, cells := 0, slots := 0, locals := 22 }
theorem b_X6_isPail (p_v : Int32) : fx_b (X6_isPail p_v) := by
  unfold X6_isPail
  try unfold X6_isPail
  repeat' split
  all_goals first | exact Or.inl rfl | exact Or.inr rfl | apply b_X6_within
set_option maxHeartbeats 8000000 in
set_option maxRecDepth 100000 in
theorem k_X6_isPail (l : Launch) (G : fxE) (hG : fxGood G) (D : va_G) (cI cJ cZ cH : ClassId) (p_v : Int32) : MetI l yX6_isPail wsX6_isPail rX6_isPail G D (tyL cI cJ cZ cH) [.int p_v] [] (X6_isPail p_v) [] := by
  refine fx_startI (cc := cX6_isPail) (n := 1) (rt := .boolean) (by decide) rfl (by decide) (fx_nb (b_X6_isPail p_v)) ?_
  intro p e s m args below meth c A Q ls hx hb hml hown hts hA hGs hK hP hD hS hl hret
  have hl : lv_has ls 1 [(0, .int p_v)] := hl
  refine lv_iload_n hx hb dX6_isPail_0 rfl (lv_at hl 0 rfl) ?_
  refine lv_iconst (v := 0) hx hb dX6_isPail_1 (by decide) ?_
  refine lv_iconst (v := 1) hx hb dX6_isPail_2 (by decide) ?_
  refine fx_callSI (As := [.int p_v, .int (0 : Int32), .int (1 : Int32)]) (rest := []) (wr := []) ⟨hx, hb, hml, hown, hts⟩ hG hGs (k_X6_within l G hG D cI cJ cZ cH p_v (0 : Int32) (1 : Int32)  ) (va_cwS 3 hts gX6_isPail_X6_within rfl rfl rfl (by decide +kernel) ⟨by decide, by decide⟩) hK hP hD hS hA [] [] rfl rfl (by decide) (by decide) (by decide) rfl rfl hl.1 (by decide) dX6_isPail_3 (Nat.zero_le _) (Nat.zero_le _) (fun H locs hP hD hS => ?_)
  have hP : va_P D vwCl [] H := hP
  have hD : va_D A [] := hD
  exact hret _ _ _ _ _ _ dX6_isPail_6 (by simp only [X6_isPail]) rfl hP hD hS

def X6_isDegree (p_v : Int32) : Int32 := (X6_within p_v (0 : Int32) (9 : Int32))
abbrev rX6_isDegree : Room := { frames := 1, cells := 0, slots := 0, locals := 22 }
theorem b_X6_isDegree (p_v : Int32) : fx_b (X6_isDegree p_v) := by
  unfold X6_isDegree
  try unfold X6_isDegree
  repeat' split
  all_goals first | exact Or.inl rfl | exact Or.inr rfl | apply b_X6_within
set_option maxHeartbeats 8000000 in
set_option maxRecDepth 100000 in
theorem k_X6_isDegree (l : Launch) (G : fxE) (hG : fxGood G) (D : va_G) (cI cJ cZ cH : ClassId) (p_v : Int32) : MetI l yX6_isDegree wsX6_isDegree rX6_isDegree G D (tyL cI cJ cZ cH) [.int p_v] [] (X6_isDegree p_v) [] := by
  refine fx_startI (cc := cX6_isDegree) (n := 1) (rt := .boolean) (by decide) rfl (by decide) (fx_nb (b_X6_isDegree p_v)) ?_
  intro p e s m args below meth c A Q ls hx hb hml hown hts hA hGs hK hP hD hS hl hret
  have hl : lv_has ls 1 [(0, .int p_v)] := hl
  refine lv_iload_n hx hb dX6_isDegree_0 rfl (lv_at hl 0 rfl) ?_
  refine lv_iconst (v := 0) hx hb dX6_isDegree_1 (by decide) ?_
  refine lv_bipush (v := 9) hx hb dX6_isDegree_2 (by decide) ?_
  refine fx_callSI (As := [.int p_v, .int (0 : Int32), .int (9 : Int32)]) (rest := []) (wr := []) ⟨hx, hb, hml, hown, hts⟩ hG hGs (k_X6_within l G hG D cI cJ cZ cH p_v (0 : Int32) (9 : Int32)  ) (va_cwS 3 hts gX6_isDegree_X6_within rfl rfl rfl (by decide +kernel) ⟨by decide, by decide⟩) hK hP hD hS hA [] [] rfl rfl (by decide) (by decide) (by decide) rfl rfl hl.1 (by decide) dX6_isDegree_4 (Nat.zero_le _) (Nat.zero_le _) (fun H locs hP hD hS => ?_)
  have hP : va_P D vwCl [] H := hP
  have hD : va_D A [] := hD
  exact hret _ _ _ _ _ _ dX6_isDegree_7 (by simp only [X6_isDegree]) rfl hP hD hS

def X6_isMeaning (p_v : Int32) : Int32 := (X6_within p_v (0 : Int32) (2 : Int32))
abbrev rX6_isMeaning : Room := { frames := 1, cells := 0, slots := 0, locals := 22 }
theorem b_X6_isMeaning (p_v : Int32) : fx_b (X6_isMeaning p_v) := by
  unfold X6_isMeaning
  try unfold X6_isMeaning
  repeat' split
  all_goals first | exact Or.inl rfl | exact Or.inr rfl | apply b_X6_within
set_option maxHeartbeats 8000000 in
set_option maxRecDepth 100000 in
theorem k_X6_isMeaning (l : Launch) (G : fxE) (hG : fxGood G) (D : va_G) (cI cJ cZ cH : ClassId) (p_v : Int32) : MetI l yX6_isMeaning wsX6_isMeaning rX6_isMeaning G D (tyL cI cJ cZ cH) [.int p_v] [] (X6_isMeaning p_v) [] := by
  refine fx_startI (cc := cX6_isMeaning) (n := 1) (rt := .boolean) (by decide) rfl (by decide) (fx_nb (b_X6_isMeaning p_v)) ?_
  intro p e s m args below meth c A Q ls hx hb hml hown hts hA hGs hK hP hD hS hl hret
  have hl : lv_has ls 1 [(0, .int p_v)] := hl
  refine lv_iload_n hx hb dX6_isMeaning_0 rfl (lv_at hl 0 rfl) ?_
  refine lv_iconst (v := 0) hx hb dX6_isMeaning_1 (by decide) ?_
  refine lv_iconst (v := 2) hx hb dX6_isMeaning_2 (by decide) ?_
  refine fx_callSI (As := [.int p_v, .int (0 : Int32), .int (2 : Int32)]) (rest := []) (wr := []) ⟨hx, hb, hml, hown, hts⟩ hG hGs (k_X6_within l G hG D cI cJ cZ cH p_v (0 : Int32) (2 : Int32)  ) (va_cwS 3 hts gX6_isMeaning_X6_within rfl rfl rfl (by decide +kernel) ⟨by decide, by decide⟩) hK hP hD hS hA [] [] rfl rfl (by decide) (by decide) (by decide) rfl rfl hl.1 (by decide) dX6_isMeaning_3 (Nat.zero_le _) (Nat.zero_le _) (fun H locs hP hD hS => ?_)
  have hP : va_P D vwCl [] H := hP
  have hD : va_D A [] := hD
  exact hret _ _ _ _ _ _ dX6_isMeaning_6 (by simp only [X6_isMeaning]) rfl hP hD hS

def X6_isFirst (p_v : Int32) : Int32 := (X6_within p_v (0 : Int32) (2 : Int32))
abbrev rX6_isFirst : Room := { frames := 1, cells := 0, slots := 0, locals := 22 }
theorem b_X6_isFirst (p_v : Int32) : fx_b (X6_isFirst p_v) := by
  unfold X6_isFirst
  try unfold X6_isFirst
  repeat' split
  all_goals first | exact Or.inl rfl | exact Or.inr rfl | apply b_X6_within
set_option maxHeartbeats 8000000 in
set_option maxRecDepth 100000 in
theorem k_X6_isFirst (l : Launch) (G : fxE) (hG : fxGood G) (D : va_G) (cI cJ cZ cH : ClassId) (p_v : Int32) : MetI l yX6_isFirst wsX6_isFirst rX6_isFirst G D (tyL cI cJ cZ cH) [.int p_v] [] (X6_isFirst p_v) [] := by
  refine fx_startI (cc := cX6_isFirst) (n := 1) (rt := .boolean) (by decide) rfl (by decide) (fx_nb (b_X6_isFirst p_v)) ?_
  intro p e s m args below meth c A Q ls hx hb hml hown hts hA hGs hK hP hD hS hl hret
  have hl : lv_has ls 1 [(0, .int p_v)] := hl
  refine lv_iload_n hx hb dX6_isFirst_0 rfl (lv_at hl 0 rfl) ?_
  refine lv_iconst (v := 0) hx hb dX6_isFirst_1 (by decide) ?_
  refine lv_iconst (v := 2) hx hb dX6_isFirst_2 (by decide) ?_
  refine fx_callSI (As := [.int p_v, .int (0 : Int32), .int (2 : Int32)]) (rest := []) (wr := []) ⟨hx, hb, hml, hown, hts⟩ hG hGs (k_X6_within l G hG D cI cJ cZ cH p_v (0 : Int32) (2 : Int32)  ) (va_cwS 3 hts gX6_isFirst_X6_within rfl rfl rfl (by decide +kernel) ⟨by decide, by decide⟩) hK hP hD hS hA [] [] rfl rfl (by decide) (by decide) (by decide) rfl rfl hl.1 (by decide) dX6_isFirst_3 (Nat.zero_le _) (Nat.zero_le _) (fun H locs hP hD hS => ?_)
  have hP : va_P D vwCl [] H := hP
  have hD : va_D A [] := hD
  exact hret _ _ _ _ _ _ dX6_isFirst_6 (by simp only [X6_isFirst]) rfl hP hD hS

def X6_isPart (p_v : Int32) : Int32 := (X6_within p_v (0 : Int32) (1 : Int32))
abbrev rX6_isPart : Room := { frames := 1, cells := 0, slots := 0, locals := 22 }
theorem b_X6_isPart (p_v : Int32) : fx_b (X6_isPart p_v) := by
  unfold X6_isPart
  try unfold X6_isPart
  repeat' split
  all_goals first | exact Or.inl rfl | exact Or.inr rfl | apply b_X6_within
set_option maxHeartbeats 8000000 in
set_option maxRecDepth 100000 in
theorem k_X6_isPart (l : Launch) (G : fxE) (hG : fxGood G) (D : va_G) (cI cJ cZ cH : ClassId) (p_v : Int32) : MetI l yX6_isPart wsX6_isPart rX6_isPart G D (tyL cI cJ cZ cH) [.int p_v] [] (X6_isPart p_v) [] := by
  refine fx_startI (cc := cX6_isPart) (n := 1) (rt := .boolean) (by decide) rfl (by decide) (fx_nb (b_X6_isPart p_v)) ?_
  intro p e s m args below meth c A Q ls hx hb hml hown hts hA hGs hK hP hD hS hl hret
  have hl : lv_has ls 1 [(0, .int p_v)] := hl
  refine lv_iload_n hx hb dX6_isPart_0 rfl (lv_at hl 0 rfl) ?_
  refine lv_iconst (v := 0) hx hb dX6_isPart_1 (by decide) ?_
  refine lv_iconst (v := 1) hx hb dX6_isPart_2 (by decide) ?_
  refine fx_callSI (As := [.int p_v, .int (0 : Int32), .int (1 : Int32)]) (rest := []) (wr := []) ⟨hx, hb, hml, hown, hts⟩ hG hGs (k_X6_within l G hG D cI cJ cZ cH p_v (0 : Int32) (1 : Int32)  ) (va_cwS 3 hts gX6_isPart_X6_within rfl rfl rfl (by decide +kernel) ⟨by decide, by decide⟩) hK hP hD hS hA [] [] rfl rfl (by decide) (by decide) (by decide) rfl rfl hl.1 (by decide) dX6_isPart_3 (Nat.zero_le _) (Nat.zero_le _) (fun H locs hP hD hS => ?_)
  have hP : va_P D vwCl [] H := hP
  have hD : va_D A [] := hD
  exact hret _ _ _ _ _ _ dX6_isPart_6 (by simp only [X6_isPart]) rfl hP hD hS

def X6_earlier (p_h : Int32) (p_c : Int32) : Int32 := (if p_c ≤ p_h then (if p_h ≤ p_c then (2 : Int32) else (1 : Int32)) else (0 : Int32))
abbrev rX6_earlier : Room := { frames := 0, cells := 0, slots := 0, locals := 0 }
set_option maxHeartbeats 8000000 in
set_option maxRecDepth 100000 in
theorem k_X6_earlier (l : Launch) (G : fxE) (hG : fxGood G) (D : va_G) (cI cJ cZ cH : ClassId) (p_h : Int32) (p_c : Int32) : MetI l yX6_earlier wsX6_earlier rX6_earlier G D (tyL cI cJ cZ cH) [.int p_h, .int p_c] [] (X6_earlier p_h p_c) [] := by
  refine fx_startI (cc := cX6_earlier) (n := 2) (rt := .int) (by decide) rfl (by decide) rfl ?_
  intro p e s m args below meth c A Q ls hx hb hml hown hts hA hGs hK hP hD hS hl hret
  have hl : lv_has ls 2 [(0, .int p_h), (1, .int p_c)] := hl
  refine lv_iload_n hx hb dX6_earlier_0 rfl (lv_at hl 0 rfl) ?_
  refine lv_iload_n hx hb dX6_earlier_1 rfl (lv_at hl 1 rfl) ?_
  refine lv_icmp_ge (tgt := 7) hx hb dX6_earlier_2 (by decide) (fun c2_3 => ?_) (fun c2_3 => ?_)
  · refine lv_iload_n hx hb dX6_earlier_7 rfl (lv_at hl 0 rfl) ?_
    refine lv_iload_n hx hb dX6_earlier_8 rfl (lv_at hl 1 rfl) ?_
    refine lv_icmp_le (tgt := 16) hx hb dX6_earlier_9 (by decide) (fun c9_6 => ?_) (fun c9_6 => ?_)
    · refine lv_iconst (v := 2) hx hb dX6_earlier_16 (by decide) ?_
      exact hret _ _ _ _ _ _ dX6_earlier_17 (by simp only [X6_earlier, if_pos c2_3, if_pos c9_6]) rfl hP hD hS
    · refine lv_iconst (v := 1) hx hb dX6_earlier_12 (by decide) ?_
      refine lv_goto (tgt := 17) hx hb dX6_earlier_13 (by decide) ?_
      exact hret _ _ _ _ _ _ dX6_earlier_17 (by simp only [X6_earlier, if_pos c2_3, if_neg c9_6]) rfl hP hD hS
  · refine lv_iconst (v := 0) hx hb dX6_earlier_5 (by decide) ?_
    exact hret _ _ _ _ _ _ dX6_earlier_6 (by simp only [X6_earlier, if_neg c2_3]) rfl hP hD hS

def X6_nextDraw (p_d : Int32) : Int32 := (((p_d * (75 : Int32)) + (74 : Int32)) - ((p_d * (75 : Int32)) + (74 : Int32)) / (65537 : Int32) * (65537 : Int32))
abbrev rX6_nextDraw : Room := { frames := 0, cells := 0, slots := 0, locals := 0 }
set_option maxHeartbeats 8000000 in
set_option maxRecDepth 100000 in
theorem k_X6_nextDraw (l : Launch) (G : fxE) (hG : fxGood G) (D : va_G) (cI cJ cZ cH : ClassId) (p_d : Int32) : MetI l yX6_nextDraw wsX6_nextDraw rX6_nextDraw G D (tyL cI cJ cZ cH) [.int p_d] [] (X6_nextDraw p_d) [] := by
  refine fx_startI (cc := cX6_nextDraw) (n := 1) (rt := .int) (by decide) rfl (by decide) rfl ?_
  intro p e s m args below meth c A Q ls hx hb hml hown hts hA hGs hK hP hD hS hl hret
  have hl : lv_has ls 1 [(0, .int p_d)] := hl
  have k222 := hts (.constant RX6 222 65537) (by decide +kernel)
  refine lv_iload_n hx hb dX6_nextDraw_0 rfl (lv_at hl 0 rfl) ?_
  refine lv_bipush (v := 75) hx hb dX6_nextDraw_1 (by decide) ?_
  refine lv_imul hx hb dX6_nextDraw_3 ?_
  refine lv_bipush (v := 74) hx hb dX6_nextDraw_4 (by decide) ?_
  refine lv_iadd hx hb dX6_nextDraw_6 ?_
  refine lv_ldc (v := 65537) hx hb hown k222 dX6_nextDraw_7 ?_
  refine lv_irem hx hb dX6_nextDraw_9 (by decide) ?_
  exact hret _ _ _ _ _ _ dX6_nextDraw_10 (by simp only [X6_nextDraw]) rfl hP hD hS

def X3_works (v_causes : Int32) (p_bit : Int32) : Int32 := (if (v_causes &&& p_bit) = 0 then (0 : Int32) else (1 : Int32))
abbrev rX3_works : Room := { frames := 0, cells := 0, slots := 0, locals := 0 }
theorem b_X3_works (v_causes : Int32) (p_bit : Int32) : fx_b (X3_works v_causes p_bit) := by
  unfold X3_works
  try unfold X3_works
  repeat' split
  all_goals first | exact Or.inl rfl | exact Or.inr rfl
theorem n_X3_works_X3 : ∀ w ∈ wsX30, w ∈ wsX3_works := by decide +kernel
set_option maxHeartbeats 8000000 in
set_option maxRecDepth 100000 in
theorem k_X3_works (l : Launch) (G : fxE) (hG : fxGood G) (D : va_G) (cI cJ cZ cH : ClassId) (a_cells a_losses a_rates a_this : Nat) (v_rateOnRime : Int32) (v_air : Int32) (v_steam : Int32) (v_melt : Int32) (v_needleAt : Int32) (v_enoughFrost : Int32) (v_causes : Int32) (v_glassCell : Int32) (v_left : Int32) (v_rime : Int32) (v_frost : Int32) (v_round : Int32) (v_begun : Int32) (v_reads : Int32) (v_last : Int32) (v_cells : Nat → Int32) (v_losses : Nat → Int32) (v_rates : Nat → Int32) (p_bit : Int32) : MetI l yX3_works wsX3_works rX3_works G D (tyL cI cJ cZ cH) [.ref a_this, .int p_bit] [(a_this, .inr (3, [.ref a_cells, .ref a_losses, .ref a_rates, .int v_rateOnRime, .int v_air, .int v_steam, .int v_melt, .int v_needleAt, .int v_enoughFrost, .int v_causes, .int v_glassCell, .int v_left, .int v_rime, .int v_frost, .int v_round, .int v_begun, .int v_reads, .int v_last])), (a_cells, .inl (cI, 4, .inl v_cells)), (a_losses, .inl (cI, 4, .inl v_losses)), (a_rates, .inl (cI, 4, .inl v_rates))] (X3_works v_causes p_bit) [(a_this, .inr (3, [.ref a_cells, .ref a_losses, .ref a_rates, .int v_rateOnRime, .int v_air, .int v_steam, .int v_melt, .int v_needleAt, .int v_enoughFrost, .int v_causes, .int v_glassCell, .int v_left, .int v_rime, .int v_frost, .int v_round, .int v_begun, .int v_reads, .int v_last])), (a_cells, .inl (cI, 4, .inl v_cells)), (a_losses, .inl (cI, 4, .inl v_losses)), (a_rates, .inl (cI, 4, .inl v_rates))] := by
  refine fx_startI (cc := cX3_works) (n := 2) (rt := .boolean) (by decide) rfl (by decide) (fx_nb (b_X3_works v_causes p_bit)) ?_
  intro p e s m args below meth c A Q ls hx hb hml hown hts hA hGs hK hP hD hS hl hret
  have hl : lv_has ls 2 [(0, .ref a_this), (1, .int p_bit)] := hl
  have iX3 := n_X3_works_X3
  have f45 := hts (.fieldLink RX3 45 "FrozeFirst$Run" "causes" "I") (by decide +kernel)
  refine lv_aload_n hx hb dX3_works_0 rfl (lv_at hl 0 rfl) ?_
  refine va_get (D := D) (ci := 3) (v := .int v_causes) (C := RX3) (T := TX3) (N := 18) hx hb hts iX3 hown hK hP 0 rfl rfl 9 (by decide) f45 (fun _ h9 => h9) rfl dX3_works_1 ?_
  refine lv_iload_n hx hb dX3_works_4 rfl (lv_at hl 1 rfl) ?_
  refine lv_iand hx hb dX3_works_5 ?_
  refine lv_if_eq (tgt := 13) hx hb dX3_works_6 (by decide) (fun c6_5 => ?_) (fun c6_5 => ?_)
  · refine lv_iconst (v := 0) hx hb dX3_works_13 (by decide) ?_
    exact hret _ _ _ _ _ _ dX3_works_14 (by simp only [X3_works, if_pos c6_5]) rfl hP hD hS
  · refine lv_iconst (v := 1) hx hb dX3_works_9 (by decide) ?_
    refine lv_goto (tgt := 14) hx hb dX3_works_10 (by decide) ?_
    exact hret _ _ _ _ _ _ dX3_works_14 (by simp only [X3_works, if_neg c6_5]) rfl hP hD hS

def X3_known (v_begun : Int32) (v_reads : Int32) (v_last : Int32) (p_meaning : Int32) : Int32 := (if p_meaning = 0 then v_begun else (if p_meaning = (1 : Int32) then v_reads else v_last))
abbrev rX3_known : Room := { frames := 0, cells := 0, slots := 0, locals := 0 }
theorem n_X3_known_X3 : ∀ w ∈ wsX30, w ∈ wsX3_known := by decide +kernel
set_option maxHeartbeats 8000000 in
set_option maxRecDepth 100000 in
theorem k_X3_known (l : Launch) (G : fxE) (hG : fxGood G) (D : va_G) (cI cJ cZ cH : ClassId) (a_cells a_losses a_rates a_this : Nat) (v_rateOnRime : Int32) (v_air : Int32) (v_steam : Int32) (v_melt : Int32) (v_needleAt : Int32) (v_enoughFrost : Int32) (v_causes : Int32) (v_glassCell : Int32) (v_left : Int32) (v_rime : Int32) (v_frost : Int32) (v_round : Int32) (v_begun : Int32) (v_reads : Int32) (v_last : Int32) (v_cells : Nat → Int32) (v_losses : Nat → Int32) (v_rates : Nat → Int32) (p_meaning : Int32) : MetI l yX3_known wsX3_known rX3_known G D (tyL cI cJ cZ cH) [.ref a_this, .int p_meaning] [(a_this, .inr (3, [.ref a_cells, .ref a_losses, .ref a_rates, .int v_rateOnRime, .int v_air, .int v_steam, .int v_melt, .int v_needleAt, .int v_enoughFrost, .int v_causes, .int v_glassCell, .int v_left, .int v_rime, .int v_frost, .int v_round, .int v_begun, .int v_reads, .int v_last])), (a_cells, .inl (cI, 4, .inl v_cells)), (a_losses, .inl (cI, 4, .inl v_losses)), (a_rates, .inl (cI, 4, .inl v_rates))] (X3_known v_begun v_reads v_last p_meaning) [(a_this, .inr (3, [.ref a_cells, .ref a_losses, .ref a_rates, .int v_rateOnRime, .int v_air, .int v_steam, .int v_melt, .int v_needleAt, .int v_enoughFrost, .int v_causes, .int v_glassCell, .int v_left, .int v_rime, .int v_frost, .int v_round, .int v_begun, .int v_reads, .int v_last])), (a_cells, .inl (cI, 4, .inl v_cells)), (a_losses, .inl (cI, 4, .inl v_losses)), (a_rates, .inl (cI, 4, .inl v_rates))] := by
  refine fx_startI (cc := cX3_known) (n := 2) (rt := .int) (by decide) rfl (by decide) rfl ?_
  intro p e s m args below meth c A Q ls hx hb hml hown hts hA hGs hK hP hD hS hl hret
  have hl : lv_has ls 2 [(0, .ref a_this), (1, .int p_meaning)] := hl
  have iX3 := n_X3_known_X3
  have f77 := hts (.fieldLink RX3 77 "FrozeFirst$Run" "last" "I") (by decide +kernel)
  have f74 := hts (.fieldLink RX3 74 "FrozeFirst$Run" "reads" "I") (by decide +kernel)
  have f71 := hts (.fieldLink RX3 71 "FrozeFirst$Run" "begun" "I") (by decide +kernel)
  refine lv_iload_n hx hb dX3_known_0 rfl (lv_at hl 1 rfl) ?_
  refine lv_if_ne (tgt := 9) hx hb dX3_known_1 (by decide) (fun c1_2 => ?_) (fun c1_2 => ?_)
  · refine lv_iload_n hx hb dX3_known_9 rfl (lv_at hl 1 rfl) ?_
    refine lv_iconst (v := 1) hx hb dX3_known_10 (by decide) ?_
    refine lv_icmp_ne (tgt := 21) hx hb dX3_known_11 (by decide) (fun c11_5 => ?_) (fun c11_5 => ?_)
    · refine lv_aload_n hx hb dX3_known_21 rfl (lv_at hl 0 rfl) ?_
      refine va_get (D := D) (ci := 3) (v := .int v_last) (C := RX3) (T := TX3) (N := 18) hx hb hts iX3 hown hK hP 0 rfl rfl 17 (by decide) f77 (fun _ h9 => h9) rfl dX3_known_22 ?_
      exact hret _ _ _ _ _ _ dX3_known_25 (by simp only [X3_known, if_neg c1_2, if_neg c11_5]) rfl hP hD hS
    · refine lv_aload_n hx hb dX3_known_14 rfl (lv_at hl 0 rfl) ?_
      refine va_get (D := D) (ci := 3) (v := .int v_reads) (C := RX3) (T := TX3) (N := 18) hx hb hts iX3 hown hK hP 0 rfl rfl 16 (by decide) f74 (fun _ h9 => h9) rfl dX3_known_15 ?_
      refine lv_goto (tgt := 25) hx hb dX3_known_18 (by decide) ?_
      exact hret _ _ _ _ _ _ dX3_known_25 (by simp only [X3_known, if_neg c1_2, if_pos c11_5]) rfl hP hD hS
  · refine lv_aload_n hx hb dX3_known_4 rfl (lv_at hl 0 rfl) ?_
    refine va_get (D := D) (ci := 3) (v := .int v_begun) (C := RX3) (T := TX3) (N := 18) hx hb hts iX3 hown hK hP 0 rfl rfl 15 (by decide) f71 (fun _ h9 => h9) rfl dX3_known_5 ?_
    exact hret _ _ _ _ _ _ dX3_known_8 (by simp only [X3_known, if_pos c1_2]) rfl hP hD hS

def X3_fromStill (p_w : Int32) : Int32 := (if 0 ≤ (p_w - (400 : Int32)) then (p_w - (400 : Int32)) else (-(p_w - (400 : Int32))))
abbrev rX3_fromStill : Room := { frames := 0, cells := 0, slots := 0, locals := 0 }
set_option maxHeartbeats 8000000 in
set_option maxRecDepth 100000 in
theorem k_X3_fromStill (l : Launch) (G : fxE) (hG : fxGood G) (D : va_G) (cI cJ cZ cH : ClassId) (p_w : Int32) : MetI l yX3_fromStill wsX3_fromStill rX3_fromStill G D (tyL cI cJ cZ cH) [.int p_w] [] (X3_fromStill p_w) [] := by
  refine fx_startI (cc := cX3_fromStill) (n := 2) (rt := .int) (by decide) rfl (by decide) rfl ?_
  intro p e s m args below meth c A Q ls hx hb hml hown hts hA hGs hK hP hD hS hl hret
  have hl : lv_has ls 2 [(0, .int p_w)] := hl
  refine lv_iload_n hx hb dX3_fromStill_0 rfl (lv_at hl 0 rfl) ?_
  refine lv_sipush (v := 400) hx hb dX3_fromStill_1 (by decide) ?_
  refine lv_isub hx hb dX3_fromStill_4 ?_
  refine lv_istore_n (lv' := [(1, .int (p_w - (400 : Int32))), (0, .int p_w)]) hx hb dX3_fromStill_5 rfl hl (by decide) rfl (fun ls hl => ?_)
  refine lv_iload_n hx hb dX3_fromStill_6 rfl (lv_at hl 0 rfl) ?_
  refine lv_if_ge (tgt := 15) hx hb dX3_fromStill_7 (by decide) (fun c7_6 => ?_) (fun c7_6 => ?_)
  · refine lv_iload_n hx hb dX3_fromStill_15 rfl (lv_at hl 0 rfl) ?_
    exact hret _ _ _ _ _ _ dX3_fromStill_16 (by simp only [X3_fromStill, if_pos c7_6]) rfl hP hD hS
  · refine lv_iload_n hx hb dX3_fromStill_10 rfl (lv_at hl 0 rfl) ?_
    refine lv_ineg hx hb dX3_fromStill_11 ?_
    refine lv_goto (tgt := 16) hx hb dX3_fromStill_12 (by decide) ?_
    exact hret _ _ _ _ _ _ dX3_fromStill_16 (by simp only [X3_fromStill, if_neg c7_6]) rfl hP hD hS
