def X3_works (v_causes : Int32) (p_bit : Int32) : Int32 := (if (v_causes &&& p_bit) = 0 then (0 : Int32) else (1 : Int32))
abbrev rX3_works : Room := { frames := 0, cells := 0, slots := 0, locals := 0 }
theorem b_X3_works (v_causes : Int32) (p_bit : Int32) : fx_b (X3_works v_causes p_bit) := by
  unfold X3_works
  try unfold X3_works
  repeat' split
  all_goals first | exact Or.inl rfl | exact Or.inr rfl
theorem n_X3_works_X3 : ∀ w ∈ wsX30, w ∈ wsX3_works := by decide +kernel
set_option maxHeartbeats 8000000 in
set_option maxRecDepth 100000 in
theorem k_X3_works (l : Launch) (G : fxE) (hG : fxGood G) (D : va_G) (cI cJ cZ cH : ClassId) (a_cells a_losses a_rates a_this : Nat) (v_rateOnRime : Int32) (v_air : Int32) (v_steam : Int32) (v_melt : Int32) (v_needleAt : Int32) (v_enoughFrost : Int32) (v_causes : Int32) (v_glassCell : Int32) (v_left : Int32) (v_rime : Int32) (v_frost : Int32) (v_round : Int32) (v_begun : Int32) (v_reads : Int32) (v_last : Int32) (v_cells : Nat → Int32) (v_losses : Nat → Int32) (v_rates : Nat → Int32) (p_bit : Int32) : MetI l yX3_works wsX3_works rX3_works G D (tyL cI cJ cZ cH) [.ref a_this, .int p_bit] [(a_this, .inr (3, [.ref a_cells, .ref a_losses, .ref a_rates, .int v_rateOnRime, .int v_air, .int v_steam, .int v_melt, .int v_needleAt, .int v_enoughFrost, .int v_causes, .int v_glassCell, .int v_left, .int v_rime, .int v_frost, .int v_round, .int v_begun, .int v_reads, .int v_last])), (a_cells, .inl (cI, 4, .inl v_cells)), (a_losses, .inl (cI, 4, .inl v_losses)), (a_rates, .inl (cI, 4, .inl v_rates))] (X3_works v_causes p_bit) [(a_this, .inr (3, [.ref a_cells, .ref a_losses, .ref a_rates, .int v_rateOnRime, .int v_air, .int v_steam, .int v_melt, .int v_needleAt, .int v_enoughFrost, .int v_causes, .int v_glassCell, .int v_left, .int v_rime, .int v_frost, .int v_round, .int v_begun, .int v_reads, .int v_last])), (a_cells, .inl (cI, 4, .inl v_cells)), (a_losses, .inl (cI, 4, .inl v_losses)), (a_rates, .inl (cI, 4, .inl v_rates))] := by
  refine fx_startI (cc := cX3_works) (n := 2) (rt := .boolean) (plainFor_of_name (by decide)) rfl (Nat.le_of_ble_eq_true rfl) (fx_nb (b_X3_works v_causes p_bit)) ?_
  intro p e s m args below meth c A Q ls hx hb hml hown hts hA hGs hK hP hD hS hl hret
  have hl : lv_has ls 2 [(0, .ref a_this), (1, .int p_bit)] := hl
  have iX3 := n_X3_works_X3
  have f45 := hts (.fieldLink RX3 45 "FrozeFirst$Run" "causes" "I") (by decide +kernel)
  refine lv_aload_n hx hb dX3_works_0 rfl (lv_at hl 0 rfl) ?_
  refine va_get (D := D) (ci := 3) (v := .int v_causes) (C := RX3) (T := TX3) (N := 18) hx hb hts iX3 hown hK hP 0 rfl rfl 9 (by decide) f45 (fun _ h9 => h9) rfl dX3_works_1 ?_
  refine lv_iload_n hx hb dX3_works_4 rfl (lv_at hl 1 rfl) ?_
  refine lv_iand hx hb dX3_works_5 ?_
  refine lv_if_eq (tgt := 13) hx hb dX3_works_6 (by decide) (fun c6 => ?_) (fun c6 => ?_)
  · refine lv_iconst (v := 0) hx hb dX3_works_13 (by decide) ?_
    exact hret _ _ _ _ _ _ dX3_works_14 (by simp only [X3_works, if_pos c6]) rfl hP hD hS
  · refine lv_iconst (v := 1) hx hb dX3_works_9 (by decide) ?_
    refine lv_goto (tgt := 14) hx hb dX3_works_10 (by decide) ?_
    exact hret _ _ _ _ _ _ dX3_works_14 (by simp only [X3_works, if_neg c6]) rfl hP hD hS

def X3_known (v_begun : Int32) (v_reads : Int32) (v_last : Int32) (p_meaning : Int32) : Int32 := (if p_meaning = 0 then v_begun else (if p_meaning = (1 : Int32) then v_reads else v_last))
abbrev rX3_known : Room := { frames := 0, cells := 0, slots := 0, locals := 0 }
theorem n_X3_known_X3 : ∀ w ∈ wsX30, w ∈ wsX3_known := by decide +kernel
set_option maxHeartbeats 8000000 in
set_option maxRecDepth 100000 in
theorem k_X3_known (l : Launch) (G : fxE) (hG : fxGood G) (D : va_G) (cI cJ cZ cH : ClassId) (a_cells a_losses a_rates a_this : Nat) (v_rateOnRime : Int32) (v_air : Int32) (v_steam : Int32) (v_melt : Int32) (v_needleAt : Int32) (v_enoughFrost : Int32) (v_causes : Int32) (v_glassCell : Int32) (v_left : Int32) (v_rime : Int32) (v_frost : Int32) (v_round : Int32) (v_begun : Int32) (v_reads : Int32) (v_last : Int32) (v_cells : Nat → Int32) (v_losses : Nat → Int32) (v_rates : Nat → Int32) (p_meaning : Int32) : MetI l yX3_known wsX3_known rX3_known G D (tyL cI cJ cZ cH) [.ref a_this, .int p_meaning] [(a_this, .inr (3, [.ref a_cells, .ref a_losses, .ref a_rates, .int v_rateOnRime, .int v_air, .int v_steam, .int v_melt, .int v_needleAt, .int v_enoughFrost, .int v_causes, .int v_glassCell, .int v_left, .int v_rime, .int v_frost, .int v_round, .int v_begun, .int v_reads, .int v_last])), (a_cells, .inl (cI, 4, .inl v_cells)), (a_losses, .inl (cI, 4, .inl v_losses)), (a_rates, .inl (cI, 4, .inl v_rates))] (X3_known v_begun v_reads v_last p_meaning) [(a_this, .inr (3, [.ref a_cells, .ref a_losses, .ref a_rates, .int v_rateOnRime, .int v_air, .int v_steam, .int v_melt, .int v_needleAt, .int v_enoughFrost, .int v_causes, .int v_glassCell, .int v_left, .int v_rime, .int v_frost, .int v_round, .int v_begun, .int v_reads, .int v_last])), (a_cells, .inl (cI, 4, .inl v_cells)), (a_losses, .inl (cI, 4, .inl v_losses)), (a_rates, .inl (cI, 4, .inl v_rates))] := by
  refine fx_startI (cc := cX3_known) (n := 2) (rt := .int) (plainFor_of_name (by decide)) rfl (Nat.le_of_ble_eq_true rfl) rfl ?_
  intro p e s m args below meth c A Q ls hx hb hml hown hts hA hGs hK hP hD hS hl hret
  have hl : lv_has ls 2 [(0, .ref a_this), (1, .int p_meaning)] := hl
  have iX3 := n_X3_known_X3
  have f77 := hts (.fieldLink RX3 77 "FrozeFirst$Run" "last" "I") (by decide +kernel)
  have f74 := hts (.fieldLink RX3 74 "FrozeFirst$Run" "reads" "I") (by decide +kernel)
  have f71 := hts (.fieldLink RX3 71 "FrozeFirst$Run" "begun" "I") (by decide +kernel)
  refine lv_iload_n hx hb dX3_known_0 rfl (lv_at hl 1 rfl) ?_
  refine lv_if_ne (tgt := 9) hx hb dX3_known_1 (by decide) (fun c1 => ?_) (fun c1 => ?_)
  · refine lv_iload_n hx hb dX3_known_9 rfl (lv_at hl 1 rfl) ?_
    refine lv_iconst (v := 1) hx hb dX3_known_10 (by decide) ?_
    refine lv_icmp_ne (tgt := 21) hx hb dX3_known_11 (by decide) (fun c11 => ?_) (fun c11 => ?_)
    · refine lv_aload_n hx hb dX3_known_21 rfl (lv_at hl 0 rfl) ?_
      refine va_get (D := D) (ci := 3) (v := .int v_last) (C := RX3) (T := TX3) (N := 18) hx hb hts iX3 hown hK hP 0 rfl rfl 17 (by decide) f77 (fun _ h9 => h9) rfl dX3_known_22 ?_
      exact hret _ _ _ _ _ _ dX3_known_25 (by simp only [X3_known, if_neg c1, if_neg c11]) rfl hP hD hS
    · refine lv_aload_n hx hb dX3_known_14 rfl (lv_at hl 0 rfl) ?_
      refine va_get (D := D) (ci := 3) (v := .int v_reads) (C := RX3) (T := TX3) (N := 18) hx hb hts iX3 hown hK hP 0 rfl rfl 16 (by decide) f74 (fun _ h9 => h9) rfl dX3_known_15 ?_
      refine lv_goto (tgt := 25) hx hb dX3_known_18 (by decide) ?_
      exact hret _ _ _ _ _ _ dX3_known_25 (by simp only [X3_known, if_neg c1, if_pos c11]) rfl hP hD hS
  · refine lv_aload_n hx hb dX3_known_4 rfl (lv_at hl 0 rfl) ?_
    refine va_get (D := D) (ci := 3) (v := .int v_begun) (C := RX3) (T := TX3) (N := 18) hx hb hts iX3 hown hK hP 0 rfl rfl 15 (by decide) f71 (fun _ h9 => h9) rfl dX3_known_5 ?_
    exact hret _ _ _ _ _ _ dX3_known_8 (by simp only [X3_known, if_pos c1]) rfl hP hD hS

def X3_fromStill (p_w : Int32) : Int32 := (if 0 ≤ (p_w - (400 : Int32)) then (p_w - (400 : Int32)) else (-(p_w - (400 : Int32))))
abbrev rX3_fromStill : Room := { frames := 0, cells := 0, slots := 0, locals := 0 }
set_option maxHeartbeats 8000000 in
set_option maxRecDepth 100000 in
theorem k_X3_fromStill (l : Launch) (G : fxE) (hG : fxGood G) (D : va_G) (cI cJ cZ cH : ClassId) (p_w : Int32) : MetI l yX3_fromStill wsX3_fromStill rX3_fromStill G D (tyL cI cJ cZ cH) [.int p_w] [] (X3_fromStill p_w) [] := by
  refine fx_startI (cc := cX3_fromStill) (n := 2) (rt := .int) (plainFor_of_name (by decide)) rfl (Nat.le_of_ble_eq_true rfl) rfl ?_
  intro p e s m args below meth c A Q ls hx hb hml hown hts hA hGs hK hP hD hS hl hret
  have hl : lv_has ls 2 [(0, .int p_w)] := hl
  refine lv_iload_n hx hb dX3_fromStill_0 rfl (lv_at hl 0 rfl) ?_
  refine lv_sipush (v := 400) hx hb dX3_fromStill_1 (by decide) ?_
  refine lv_isub hx hb dX3_fromStill_4 ?_
  refine lv_istore_n (lv' := [(1, .int (p_w - (400 : Int32))), (0, .int p_w)]) hx hb dX3_fromStill_5 rfl hl (by decide) rfl (fun ls hl => ?_)
  refine lv_iload_n hx hb dX3_fromStill_6 rfl (lv_at hl 0 rfl) ?_
  refine lv_if_ge (tgt := 15) hx hb dX3_fromStill_7 (by decide) (fun c7 => ?_) (fun c7 => ?_)
  · refine lv_iload_n hx hb dX3_fromStill_15 rfl (lv_at hl 0 rfl) ?_
    exact hret _ _ _ _ _ _ dX3_fromStill_16 (by simp only [X3_fromStill, if_pos c7]) rfl hP hD hS
  · refine lv_iload_n hx hb dX3_fromStill_10 rfl (lv_at hl 0 rfl) ?_
    refine lv_ineg hx hb dX3_fromStill_11 ?_
    refine lv_goto (tgt := 16) hx hb dX3_fromStill_12 (by decide) ?_
    exact hret _ _ _ _ _ _ dX3_fromStill_16 (by simp only [X3_fromStill, if_neg c7]) rfl hP hD hS

def X3_putGlass_m15_s1 (p_cell : Int32) : Int32 := (if (X6_within p_cell (0 : Int32) (3 : Int32)) = 0 then (0 : Int32) else p_cell)
def X3_putGlass_o_glassCell (p_cell : Int32) : Int32 := (X3_putGlass_m15_s1 p_cell)
abbrev rX3_putGlass : Room := { frames := 1, cells := 0, slots := 0, locals := 22 }
theorem n_X3_putGlass_X3 : ∀ w ∈ wsX30, w ∈ wsX3_putGlass := by decide +kernel
set_option maxHeartbeats 8000000 in
set_option maxRecDepth 100000 in
theorem k_X3_putGlass (l : Launch) (G : fxE) (hG : fxGood G) (D : va_G) (cI cJ cZ cH : ClassId) (a_cells a_losses a_rates a_this : Nat) (v_rateOnRime : Int32) (v_air : Int32) (v_steam : Int32) (v_melt : Int32) (v_needleAt : Int32) (v_enoughFrost : Int32) (v_causes : Int32) (v_glassCell : Int32) (v_left : Int32) (v_rime : Int32) (v_frost : Int32) (v_round : Int32) (v_begun : Int32) (v_reads : Int32) (v_last : Int32) (v_cells : Nat → Int32) (v_losses : Nat → Int32) (v_rates : Nat → Int32) (p_cell : Int32) : MetV l yX3_putGlass wsX3_putGlass rX3_putGlass G D (tyL cI cJ cZ cH) [.ref a_this, .int p_cell] [(a_this, .inr (3, [.ref a_cells, .ref a_losses, .ref a_rates, .int v_rateOnRime, .int v_air, .int v_steam, .int v_melt, .int v_needleAt, .int v_enoughFrost, .int v_causes, .int v_glassCell, .int v_left, .int v_rime, .int v_frost, .int v_round, .int v_begun, .int v_reads, .int v_last])), (a_cells, .inl (cI, 4, .inl v_cells)), (a_losses, .inl (cI, 4, .inl v_losses)), (a_rates, .inl (cI, 4, .inl v_rates))] [(a_this, .inr (3, [.ref a_cells, .ref a_losses, .ref a_rates, .int v_rateOnRime, .int v_air, .int v_steam, .int v_melt, .int v_needleAt, .int v_enoughFrost, .int v_causes, .int (X3_putGlass_o_glassCell p_cell), .int v_left, .int v_rime, .int v_frost, .int v_round, .int v_begun, .int v_reads, .int v_last])), (a_cells, .inl (cI, 4, .inl v_cells)), (a_losses, .inl (cI, 4, .inl v_losses)), (a_rates, .inl (cI, 4, .inl v_rates))] := by
  refine fx_startV (cc := cX3_putGlass) (n := 2) (plainFor_of_name (by decide)) rfl (Nat.le_of_ble_eq_true rfl) ?_
  intro p e s m args below meth c A Q ls hx hb hml hown hts hA hGs hK hP hD hS hl hret
  have hl : lv_has ls 2 [(0, .ref a_this), (1, .int p_cell)] := hl
  have iX3 := n_X3_putGlass_X3
  have iniX6 := hts (.initialized RX6) (by decide +kernel)
  have stX6_within := hts (.static yX6_within) (by decide +kernel)
  have f80 := hts (.fieldLink RX3 80 "FrozeFirst$Run" "glassCell" "I") (by decide +kernel)
  refine lv_aload_n hx hb dX3_putGlass_0 rfl (lv_at hl 0 rfl) ?_
  refine lv_iload_n hx hb dX3_putGlass_1 rfl (lv_at hl 1 rfl) ?_
  refine lv_iconst (v := 0) hx hb dX3_putGlass_2 (by decide) ?_
  refine lv_iconst (v := 3) hx hb dX3_putGlass_3 (by decide) ?_
  refine fx_callNI (As := [.int p_cell, .int (0 : Int32), .int (3 : Int32)]) (rest := [.ref a_this]) (wr := [(a_this, .inr (3, [.ref a_cells, .ref a_losses, .ref a_rates, .int v_rateOnRime, .int v_air, .int v_steam, .int v_melt, .int v_needleAt, .int v_enoughFrost, .int v_causes, .int v_glassCell, .int v_left, .int v_rime, .int v_frost, .int v_round, .int v_begun, .int v_reads, .int v_last])), (a_cells, .inl (cI, 4, .inl v_cells)), (a_losses, .inl (cI, 4, .inl v_losses)), (a_rates, .inl (cI, 4, .inl v_rates))]) ⟨hx, hb, hml, hown, hts⟩ hG hGs (k_X6_within l G hG D cI cJ cZ cH p_cell (0 : Int32) (3 : Int32)  ) ⟨va_cnB (host := "FrozeFirst") 3 hts gX3_putGlass_X6_within_n52 rfl rfl rfl (hG.2.2 _ _ hGs) iniX6 (by decide +kernel) ⟨by decide, by decide⟩, stX6_within, trivial⟩ hK hP hD hS hA [] [0, 1, 2, 3] rfl rfl (by decide) (by decide) (by decide) rfl rfl hl.1 (Nat.le_of_ble_eq_true rfl) dX3_putGlass_4 (Nat.zero_le _) (Nat.zero_le _) (fun H locs hP hD hS => ?_)
  have hP : va_P D vwCl [(a_this, .inr (3, [.ref a_cells, .ref a_losses, .ref a_rates, .int v_rateOnRime, .int v_air, .int v_steam, .int v_melt, .int v_needleAt, .int v_enoughFrost, .int v_causes, .int v_glassCell, .int v_left, .int v_rime, .int v_frost, .int v_round, .int v_begun, .int v_reads, .int v_last])), (a_cells, .inl (cI, 4, .inl v_cells)), (a_losses, .inl (cI, 4, .inl v_losses)), (a_rates, .inl (cI, 4, .inl v_rates))] H := hP
  have hD : va_D A [(a_this, .inr (3, [.ref a_cells, .ref a_losses, .ref a_rates, .int v_rateOnRime, .int v_air, .int v_steam, .int v_melt, .int v_needleAt, .int v_enoughFrost, .int v_causes, .int v_glassCell, .int v_left, .int v_rime, .int v_frost, .int v_round, .int v_begun, .int v_reads, .int v_last])), (a_cells, .inl (cI, 4, .inl v_cells)), (a_losses, .inl (cI, 4, .inl v_losses)), (a_rates, .inl (cI, 4, .inl v_rates))] := hD
  have C15 : ∀ (x15_s1 : Int32), (X3_putGlass_m15_s1 p_cell) = x15_s1 → ∀ (H : Heap) (locs : List Loc), va_P D vwCl [(a_this, .inr (3, [.ref a_cells, .ref a_losses, .ref a_rates, .int v_rateOnRime, .int v_air, .int v_steam, .int v_melt, .int v_needleAt, .int v_enoughFrost, .int v_causes, .int v_glassCell, .int v_left, .int v_rime, .int v_frost, .int v_round, .int v_begun, .int v_reads, .int v_last])), (a_cells, .inl (cI, 4, .inl v_cells)), (a_losses, .inl (cI, 4, .inl v_losses)), (a_rates, .inl (cI, 4, .inl v_rates))] H → va_D A [(a_this, .inr (3, [.ref a_cells, .ref a_losses, .ref a_rates, .int v_rateOnRime, .int v_air, .int v_steam, .int v_melt, .int v_needleAt, .int v_enoughFrost, .int v_causes, .int v_glassCell, .int v_left, .int v_rime, .int v_frost, .int v_round, .int v_begun, .int v_reads, .int v_last])), (a_cells, .inl (cI, 4, .inl v_cells)), (a_losses, .inl (cI, 4, .inl v_losses)), (a_rates, .inl (cI, 4, .inl v_rates))] → va_S A s.heap H locs → ∀ (ls : Array Slot), lv_has ls 2 [] → W p l e rX3_putGlass s m args below meth c H locs 0 0 Q (F0 m 15 ls [.int x15_s1, .ref a_this]) := by
    intro x15_s1 hx15_s1 H locs hP hD hS ls hl
    subst hx15_s1
    refine va_put (D := D) (ci := 3) (v := .int (X3_putGlass_m15_s1 p_cell)) (ty := .int) (C := RX3) (T := TX3) (N := 18) hx hb hts iX3 tyX3 tyX3_ok nmX3 hown hK hP hD hS 0 rfl rfl 10 (by decide) f80 (fun _ h9 => h9) rfl (tyX3_ok 10 (by decide)) rfl rfl (Nat.le_of_ble_eq_true rfl) dX3_putGlass_15 (fun H locs hP hD hS => ?_)
    have hP : va_P D vwCl [(a_this, .inr (3, [.ref a_cells, .ref a_losses, .ref a_rates, .int v_rateOnRime, .int v_air, .int v_steam, .int v_melt, .int v_needleAt, .int v_enoughFrost, .int v_causes, .int (X3_putGlass_m15_s1 p_cell), .int v_left, .int v_rime, .int v_frost, .int v_round, .int v_begun, .int v_reads, .int v_last])), (a_cells, .inl (cI, 4, .inl v_cells)), (a_losses, .inl (cI, 4, .inl v_losses)), (a_rates, .inl (cI, 4, .inl v_rates))] H := hP
    have hD : va_D A [(a_this, .inr (3, [.ref a_cells, .ref a_losses, .ref a_rates, .int v_rateOnRime, .int v_air, .int v_steam, .int v_melt, .int v_needleAt, .int v_enoughFrost, .int v_causes, .int (X3_putGlass_m15_s1 p_cell), .int v_left, .int v_rime, .int v_frost, .int v_round, .int v_begun, .int v_reads, .int v_last])), (a_cells, .inl (cI, 4, .inl v_cells)), (a_losses, .inl (cI, 4, .inl v_losses)), (a_rates, .inl (cI, 4, .inl v_rates))] := hD
    exact hret _ _ _ _ _ dX3_putGlass_18 (by simp only [X3_putGlass_o_glassCell]) hP hD hS
  refine lv_if_eq (tgt := 14) hx hb dX3_putGlass_7 (by decide) (fun c7 => ?_) (fun c7 => ?_)
  · refine lv_iconst (v := 0) hx hb dX3_putGlass_14 (by decide) ?_
    exact C15 (0 : Int32) (by simp only [X3_putGlass_m15_s1, if_pos c7]) _ _ hP hD hS ls (lv_sub hl [] rfl)
  · refine lv_iload_n hx hb dX3_putGlass_10 rfl (lv_at hl 1 rfl) ?_
    refine lv_goto (tgt := 15) hx hb dX3_putGlass_11 (by decide) ?_
    exact C15 p_cell (by simp only [X3_putGlass_m15_s1, if_neg c7]) _ _ hP hD hS ls (lv_sub hl [] rfl)

def X3_shows (v_left : Int32) (v_rime : Int32) (v_frost : Int32) (v_cells : Nat → Int32) (p_what : Int32) : Int32 := (if (X6_within p_what (0 : Int32) (3 : Int32)) = 0 then (if p_what = (4 : Int32) then v_left else (if p_what = (5 : Int32) then v_rime else v_frost)) else (v_cells p_what.toNatClampNeg))
abbrev rX3_shows : Room := { frames := 1, cells := 0, slots := 0, locals := 22 }
theorem n_X3_shows_X3 : ∀ w ∈ wsX30, w ∈ wsX3_shows := by decide +kernel
set_option maxHeartbeats 8000000 in
set_option maxRecDepth 100000 in
theorem k_X3_shows (l : Launch) (G : fxE) (hG : fxGood G) (D : va_G) (cI cJ cZ cH : ClassId) (a_cells a_losses a_rates a_this : Nat) (v_rateOnRime : Int32) (v_air : Int32) (v_steam : Int32) (v_melt : Int32) (v_needleAt : Int32) (v_enoughFrost : Int32) (v_causes : Int32) (v_glassCell : Int32) (v_left : Int32) (v_rime : Int32) (v_frost : Int32) (v_round : Int32) (v_begun : Int32) (v_reads : Int32) (v_last : Int32) (v_cells : Nat → Int32) (v_losses : Nat → Int32) (v_rates : Nat → Int32) (p_what : Int32) : MetI l yX3_shows wsX3_shows rX3_shows G D (tyL cI cJ cZ cH) [.ref a_this, .int p_what] [(a_this, .inr (3, [.ref a_cells, .ref a_losses, .ref a_rates, .int v_rateOnRime, .int v_air, .int v_steam, .int v_melt, .int v_needleAt, .int v_enoughFrost, .int v_causes, .int v_glassCell, .int v_left, .int v_rime, .int v_frost, .int v_round, .int v_begun, .int v_reads, .int v_last])), (a_cells, .inl (cI, 4, .inl v_cells)), (a_losses, .inl (cI, 4, .inl v_losses)), (a_rates, .inl (cI, 4, .inl v_rates))] (X3_shows v_left v_rime v_frost v_cells p_what) [(a_this, .inr (3, [.ref a_cells, .ref a_losses, .ref a_rates, .int v_rateOnRime, .int v_air, .int v_steam, .int v_melt, .int v_needleAt, .int v_enoughFrost, .int v_causes, .int v_glassCell, .int v_left, .int v_rime, .int v_frost, .int v_round, .int v_begun, .int v_reads, .int v_last])), (a_cells, .inl (cI, 4, .inl v_cells)), (a_losses, .inl (cI, 4, .inl v_losses)), (a_rates, .inl (cI, 4, .inl v_rates))] := by
  refine fx_startI (cc := cX3_shows) (n := 2) (rt := .int) (plainFor_of_name (by decide)) rfl (Nat.le_of_ble_eq_true rfl) rfl ?_
  intro p e s m args below meth c A Q ls hx hb hml hown hts hA hGs hK hP hD hS hl hret
  have hl : lv_has ls 2 [(0, .ref a_this), (1, .int p_what)] := hl
  have iX3 := n_X3_shows_X3
  have iniX6 := hts (.initialized RX6) (by decide +kernel)
  have stX6_within := hts (.static yX6_within) (by decide +kernel)
  have f65 := hts (.fieldLink RX3 65 "FrozeFirst$Run" "frost" "I") (by decide +kernel)
  have f62 := hts (.fieldLink RX3 62 "FrozeFirst$Run" "rime" "I") (by decide +kernel)
  have f59 := hts (.fieldLink RX3 59 "FrozeFirst$Run" "left" "I") (by decide +kernel)
  have f9 := hts (.fieldLink RX3 9 "FrozeFirst$Run" "cells" "[I") (by decide +kernel)
  refine lv_iload_n hx hb dX3_shows_0 rfl (lv_at hl 1 rfl) ?_
  refine lv_iconst (v := 0) hx hb dX3_shows_1 (by decide) ?_
  refine lv_iconst (v := 3) hx hb dX3_shows_2 (by decide) ?_
  refine fx_callNI (As := [.int p_what, .int (0 : Int32), .int (3 : Int32)]) (rest := []) (wr := [(a_this, .inr (3, [.ref a_cells, .ref a_losses, .ref a_rates, .int v_rateOnRime, .int v_air, .int v_steam, .int v_melt, .int v_needleAt, .int v_enoughFrost, .int v_causes, .int v_glassCell, .int v_left, .int v_rime, .int v_frost, .int v_round, .int v_begun, .int v_reads, .int v_last])), (a_cells, .inl (cI, 4, .inl v_cells)), (a_losses, .inl (cI, 4, .inl v_losses)), (a_rates, .inl (cI, 4, .inl v_rates))]) ⟨hx, hb, hml, hown, hts⟩ hG hGs (k_X6_within l G hG D cI cJ cZ cH p_what (0 : Int32) (3 : Int32)  ) ⟨va_cnB (host := "FrozeFirst") 3 hts gX3_shows_X6_within_n52 rfl rfl rfl (hG.2.2 _ _ hGs) iniX6 (by decide +kernel) ⟨by decide, by decide⟩, stX6_within, trivial⟩ hK hP hD hS hA [] [0, 1, 2, 3] rfl rfl (by decide) (by decide) (by decide) rfl rfl hl.1 (Nat.le_of_ble_eq_true rfl) dX3_shows_3 (Nat.zero_le _) (Nat.zero_le _) (fun H locs hP hD hS => ?_)
  have hP : va_P D vwCl [(a_this, .inr (3, [.ref a_cells, .ref a_losses, .ref a_rates, .int v_rateOnRime, .int v_air, .int v_steam, .int v_melt, .int v_needleAt, .int v_enoughFrost, .int v_causes, .int v_glassCell, .int v_left, .int v_rime, .int v_frost, .int v_round, .int v_begun, .int v_reads, .int v_last])), (a_cells, .inl (cI, 4, .inl v_cells)), (a_losses, .inl (cI, 4, .inl v_losses)), (a_rates, .inl (cI, 4, .inl v_rates))] H := hP
  have hD : va_D A [(a_this, .inr (3, [.ref a_cells, .ref a_losses, .ref a_rates, .int v_rateOnRime, .int v_air, .int v_steam, .int v_melt, .int v_needleAt, .int v_enoughFrost, .int v_causes, .int v_glassCell, .int v_left, .int v_rime, .int v_frost, .int v_round, .int v_begun, .int v_reads, .int v_last])), (a_cells, .inl (cI, 4, .inl v_cells)), (a_losses, .inl (cI, 4, .inl v_losses)), (a_rates, .inl (cI, 4, .inl v_rates))] := hD
  refine lv_if_eq (tgt := 16) hx hb dX3_shows_6 (by decide) (fun c6 => ?_) (fun c6 => ?_)
  · refine lv_iload_n hx hb dX3_shows_16 rfl (lv_at hl 1 rfl) ?_
    refine lv_iconst (v := 4) hx hb dX3_shows_17 (by decide) ?_
    refine lv_icmp_ne (tgt := 26) hx hb dX3_shows_18 (by decide) (fun c18 => ?_) (fun c18 => ?_)
    · refine lv_iload_n hx hb dX3_shows_26 rfl (lv_at hl 1 rfl) ?_
      refine lv_iconst (v := 5) hx hb dX3_shows_27 (by decide) ?_
      refine lv_icmp_ne (tgt := 38) hx hb dX3_shows_28 (by decide) (fun c28 => ?_) (fun c28 => ?_)
      · refine lv_aload_n hx hb dX3_shows_38 rfl (lv_at hl 0 rfl) ?_
        refine va_get (D := D) (ci := 3) (v := .int v_frost) (C := RX3) (T := TX3) (N := 18) hx hb hts iX3 hown hK hP 0 rfl rfl 13 (by decide) f65 (fun _ h9 => h9) rfl dX3_shows_39 ?_
        exact hret _ _ _ _ _ _ dX3_shows_42 (by simp only [X3_shows, if_pos c6, if_neg c18, if_neg c28]) rfl hP hD hS
      · refine lv_aload_n hx hb dX3_shows_31 rfl (lv_at hl 0 rfl) ?_
        refine va_get (D := D) (ci := 3) (v := .int v_rime) (C := RX3) (T := TX3) (N := 18) hx hb hts iX3 hown hK hP 0 rfl rfl 12 (by decide) f62 (fun _ h9 => h9) rfl dX3_shows_32 ?_
        refine lv_goto (tgt := 42) hx hb dX3_shows_35 (by decide) ?_
        exact hret _ _ _ _ _ _ dX3_shows_42 (by simp only [X3_shows, if_pos c6, if_neg c18, if_pos c28]) rfl hP hD hS
    · refine lv_aload_n hx hb dX3_shows_21 rfl (lv_at hl 0 rfl) ?_
      refine va_get (D := D) (ci := 3) (v := .int v_left) (C := RX3) (T := TX3) (N := 18) hx hb hts iX3 hown hK hP 0 rfl rfl 11 (by decide) f59 (fun _ h9 => h9) rfl dX3_shows_22 ?_
      exact hret _ _ _ _ _ _ dX3_shows_25 (by simp only [X3_shows, if_pos c6, if_pos c18]) rfl hP hD hS
  · refine lv_aload_n hx hb dX3_shows_9 rfl (lv_at hl 0 rfl) ?_
    refine va_get (D := D) (ci := 3) (v := .ref a_cells) (C := RX3) (T := TX3) (N := 18) hx hb hts iX3 hown hK hP 0 rfl rfl 0 (by decide) f9 (fun _ h9 => h9) rfl dX3_shows_10 ?_
    refine lv_iload_n hx hb dX3_shows_13 rfl (lv_at hl 1 rfl) ?_
    refine va_iald hx hb hK hP 1 0 rfl rfl (fx_w3 c6) dX3_shows_14 ?_
    exact hret _ _ _ _ _ _ dX3_shows_15 (by simp only [X3_shows, if_neg c6]) rfl hP hD hS

def X3_takeBelowNought_L4 (v_cells : Nat → Int32) : Nat → Int32 × (Nat → Int32)
  | 0 => ((0 : Int32), v_cells)
  | j4 + 1 => (if 0 ≤ ((X3_takeBelowNought_L4 v_cells j4).2 j4) then ((X3_takeBelowNought_L4 v_cells j4).1, (X3_takeBelowNought_L4 v_cells j4).2) else (((X3_takeBelowNought_L4 v_cells j4).1 - ((X3_takeBelowNought_L4 v_cells j4).2 j4)), (upd (X3_takeBelowNought_L4 v_cells j4).2 j4 (0 : Int32))))
def X3_takeBelowNought (v_cells : Nat → Int32) : Int32 := ((X3_takeBelowNought_L4 v_cells 4).1)
def X3_takeBelowNought_o_cells (v_cells : Nat → Int32) : Nat → Int32 := ((X3_takeBelowNought_L4 v_cells 4).2)
abbrev rX3_takeBelowNought : Room := { frames := 0, cells := 0, slots := 0, locals := 0 }
theorem n_X3_takeBelowNought_X3 : ∀ w ∈ wsX30, w ∈ wsX3_takeBelowNought := by decide +kernel
set_option maxHeartbeats 8000000 in
set_option maxRecDepth 100000 in
theorem k_X3_takeBelowNought (l : Launch) (G : fxE) (hG : fxGood G) (D : va_G) (cI cJ cZ cH : ClassId) (a_cells a_losses a_rates a_this : Nat) (v_rateOnRime : Int32) (v_air : Int32) (v_steam : Int32) (v_melt : Int32) (v_needleAt : Int32) (v_enoughFrost : Int32) (v_causes : Int32) (v_glassCell : Int32) (v_left : Int32) (v_rime : Int32) (v_frost : Int32) (v_round : Int32) (v_begun : Int32) (v_reads : Int32) (v_last : Int32) (v_cells : Nat → Int32) (v_losses : Nat → Int32) (v_rates : Nat → Int32) : MetI l yX3_takeBelowNought wsX3_takeBelowNought rX3_takeBelowNought G D (tyL cI cJ cZ cH) [.ref a_this] [(a_this, .inr (3, [.ref a_cells, .ref a_losses, .ref a_rates, .int v_rateOnRime, .int v_air, .int v_steam, .int v_melt, .int v_needleAt, .int v_enoughFrost, .int v_causes, .int v_glassCell, .int v_left, .int v_rime, .int v_frost, .int v_round, .int v_begun, .int v_reads, .int v_last])), (a_cells, .inl (cI, 4, .inl v_cells)), (a_losses, .inl (cI, 4, .inl v_losses)), (a_rates, .inl (cI, 4, .inl v_rates))] (X3_takeBelowNought v_cells) [(a_this, .inr (3, [.ref a_cells, .ref a_losses, .ref a_rates, .int v_rateOnRime, .int v_air, .int v_steam, .int v_melt, .int v_needleAt, .int v_enoughFrost, .int v_causes, .int v_glassCell, .int v_left, .int v_rime, .int v_frost, .int v_round, .int v_begun, .int v_reads, .int v_last])), (a_cells, .inl (cI, 4, .inl (X3_takeBelowNought_o_cells v_cells))), (a_losses, .inl (cI, 4, .inl v_losses)), (a_rates, .inl (cI, 4, .inl v_rates))] := by
  refine fx_startI (cc := cX3_takeBelowNought) (n := 3) (rt := .int) (plainFor_of_name (by decide)) rfl (Nat.le_of_ble_eq_true rfl) rfl ?_
  intro p e s m args below meth c A Q ls hx hb hml hown hts hA hGs hK hP hD hS hl hret
  have hl : lv_has ls 3 [(0, .ref a_this)] := hl
  have iX3 := n_X3_takeBelowNought_X3
  have f9 := hts (.fieldLink RX3 9 "FrozeFirst$Run" "cells" "[I") (by decide +kernel)
  refine lv_iconst (v := 0) hx hb dX3_takeBelowNought_0 (by decide) ?_
  refine lv_istore_n (lv' := [(1, .int (0 : Int32)), (0, .ref a_this)]) hx hb dX3_takeBelowNought_1 rfl hl (by decide) rfl (fun ls hl => ?_)
  refine lv_iconst (v := 0) hx hb dX3_takeBelowNought_2 (by decide) ?_
  refine lv_istore_n (lv' := [(2, .int (0 : Int32)), (1, .int (0 : Int32)), (0, .ref a_this)]) hx hb dX3_takeBelowNought_3 rfl hl (by decide) rfl (fun ls hl => ?_)
  have L4 : ∀ (n j4 : Nat) (x4_l1 : Int32) (x4_cells : Nat → Int32), j4 ≤ 4 → 4 + 1 ≤ j4 + n → X3_takeBelowNought_L4 v_cells j4 = (x4_l1, x4_cells) → ∀ (H : Heap) (locs : List Loc), va_P D vwCl [(a_this, .inr (3, [.ref a_cells, .ref a_losses, .ref a_rates, .int v_rateOnRime, .int v_air, .int v_steam, .int v_melt, .int v_needleAt, .int v_enoughFrost, .int v_causes, .int v_glassCell, .int v_left, .int v_rime, .int v_frost, .int v_round, .int v_begun, .int v_reads, .int v_last])), (a_cells, .inl (cI, 4, .inl x4_cells)), (a_losses, .inl (cI, 4, .inl v_losses)), (a_rates, .inl (cI, 4, .inl v_rates))] H → va_D A [(a_this, .inr (3, [.ref a_cells, .ref a_losses, .ref a_rates, .int v_rateOnRime, .int v_air, .int v_steam, .int v_melt, .int v_needleAt, .int v_enoughFrost, .int v_causes, .int v_glassCell, .int v_left, .int v_rime, .int v_frost, .int v_round, .int v_begun, .int v_reads, .int v_last])), (a_cells, .inl (cI, 4, .inl x4_cells)), (a_losses, .inl (cI, 4, .inl v_losses)), (a_rates, .inl (cI, 4, .inl v_rates))] → va_S A s.heap H locs → ∀ (ls : Array Slot), lv_has ls 3 [(0, .ref a_this), (1, .int x4_l1), (2, .int (nI j4))] → W p l e rX3_takeBelowNought s m args below meth c H locs 0 0 Q (F0 m 4 ls []) := by
    intro n
    induction n with
    | zero => intro j4 x4_l1 x4_cells h1 h2; exact absurd h2 (by omega)
    | succ n ih4 =>
      intro j4 x4_l1 x4_cells hj4 hn4  hx4 H locs hP hD hS ls hl
      refine lv_iload_n hx hb dX3_takeBelowNought_4 rfl (lv_at hl 2 rfl) ?_
      refine lv_iconst (v := 4) hx hb dX3_takeBelowNought_5 (by decide) ?_
      refine lv_icmp_ge (tgt := 40) hx hb dX3_takeBelowNought_6 (by decide) (fun c6 => ?_) (fun c6 => ?_)
      · have n6 : 4 ≤ j4 := (fx_leN (x := (4 : Int32)) (y := (nI j4)) (a := 4) (b := j4) rfl rfl (by omega) (by omega)).mp c6
        have e4 : 4 = j4 := by omega
        subst e4
        have q4_0 : x4_l1 = (X3_takeBelowNought_L4 v_cells 4).1 := by rw [hx4]
        have q4_1 : x4_cells = (X3_takeBelowNought_L4 v_cells 4).2 := by rw [hx4]
        subst q4_0
        subst q4_1
        have hl := lv_sub (l' := [(1, .int ((X3_takeBelowNought_L4 v_cells 4).1))]) hl [1] rfl
        have hP : va_P D vwCl [(a_this, .inr (3, [.ref a_cells, .ref a_losses, .ref a_rates, .int v_rateOnRime, .int v_air, .int v_steam, .int v_melt, .int v_needleAt, .int v_enoughFrost, .int v_causes, .int v_glassCell, .int v_left, .int v_rime, .int v_frost, .int v_round, .int v_begun, .int v_reads, .int v_last])), (a_cells, .inl (cI, 4, .inl ((X3_takeBelowNought_L4 v_cells 4).2))), (a_losses, .inl (cI, 4, .inl v_losses)), (a_rates, .inl (cI, 4, .inl v_rates))] H := hP
        have hD : va_D A [(a_this, .inr (3, [.ref a_cells, .ref a_losses, .ref a_rates, .int v_rateOnRime, .int v_air, .int v_steam, .int v_melt, .int v_needleAt, .int v_enoughFrost, .int v_causes, .int v_glassCell, .int v_left, .int v_rime, .int v_frost, .int v_round, .int v_begun, .int v_reads, .int v_last])), (a_cells, .inl (cI, 4, .inl ((X3_takeBelowNought_L4 v_cells 4).2))), (a_losses, .inl (cI, 4, .inl v_losses)), (a_rates, .inl (cI, 4, .inl v_rates))] := hD
        refine lv_iload_n hx hb dX3_takeBelowNought_40 rfl (lv_at hl 0 rfl) ?_
        exact hret _ _ _ _ _ _ dX3_takeBelowNought_41 (by simp only [X3_takeBelowNought, if_pos c6]) (by simp only [X3_takeBelowNought_o_cells, if_pos c6]) hP hD hS
      · have n6 : ¬ (4 ≤ j4) := fun h9 => c6 ((fx_leN (x := (4 : Int32)) (y := (nI j4)) (a := 4) (b := j4) rfl rfl (by omega) (by omega)).mpr h9)
        refine lv_aload_n hx hb dX3_takeBelowNought_9 rfl (lv_at hl 0 rfl) ?_
        refine va_get (D := D) (ci := 3) (v := .ref a_cells) (C := RX3) (T := TX3) (N := 18) hx hb hts iX3 hown hK hP 0 rfl rfl 0 (by decide) f9 (fun _ h9 => h9) rfl dX3_takeBelowNought_10 ?_
        refine lv_iload_n hx hb dX3_takeBelowNought_13 rfl (lv_at hl 2 rfl) ?_
        refine fx_iald hx hb hK hP 1 0 rfl rfl j4 rfl (by omega) (by decide) dX3_takeBelowNought_14 ?_
        refine lv_if_ge (tgt := 34) hx hb dX3_takeBelowNought_15 (by decide) (fun c15 => ?_) (fun c15 => ?_)
        · refine lv_iinc (v := nI (j4 + 1)) (lv' := [(2, .int (nI (j4 + 1))), (0, .ref a_this), (1, .int x4_l1)]) hx hb dX3_takeBelowNought_34 hl (k := 2) rfl (fx_inc _ 1) (by decide) rfl (fun ls hl => ?_)
          refine lv_goto (tgt := 4) hx hb dX3_takeBelowNought_37 (by decide) ?_
          exact ih4 (j4 + 1) x4_l1 x4_cells (by omega) (by omega)  (by simp only [X3_takeBelowNought_L4, hx4, if_neg c6, if_pos c15]) _ _ hP hD hS ls (lv_sub hl [1, 2, 0] rfl)
        · refine lv_iload_n hx hb dX3_takeBelowNought_18 rfl (lv_at hl 1 rfl) ?_
          refine lv_aload_n hx hb dX3_takeBelowNought_19 rfl (lv_at hl 0 rfl) ?_
          refine va_get (D := D) (ci := 3) (v := .ref a_cells) (C := RX3) (T := TX3) (N := 18) hx hb hts iX3 hown hK hP 0 rfl rfl 0 (by decide) f9 (fun _ h9 => h9) rfl dX3_takeBelowNought_20 ?_
          refine lv_iload_n hx hb dX3_takeBelowNought_23 rfl (lv_at hl 2 rfl) ?_
          refine fx_iald hx hb hK hP 1 0 rfl rfl j4 rfl (by omega) (by decide) dX3_takeBelowNought_24 ?_
          refine lv_isub hx hb dX3_takeBelowNought_25 ?_
          refine lv_istore_n (lv' := [(1, .int (x4_l1 - (x4_cells j4))), (0, .ref a_this), (2, .int (nI j4))]) hx hb dX3_takeBelowNought_26 rfl hl (by decide) rfl (fun ls hl => ?_)
          refine lv_aload_n hx hb dX3_takeBelowNought_27 rfl (lv_at hl 1 rfl) ?_
          refine va_get (D := D) (ci := 3) (v := .ref a_cells) (C := RX3) (T := TX3) (N := 18) hx hb hts iX3 hown hK hP 0 rfl rfl 0 (by decide) f9 (fun _ h9 => h9) rfl dX3_takeBelowNought_28 ?_
          refine lv_iload_n hx hb dX3_takeBelowNought_31 rfl (lv_at hl 2 rfl) ?_
          refine lv_iconst (v := 0) hx hb dX3_takeBelowNought_32 (by decide) ?_
          refine fx_iast hx hb hK hP hD hS 1 0 rfl rfl j4 rfl (by omega) (by decide) dX3_takeBelowNought_33 (fun H locs hP hD hS => ?_)
          have hP : va_P D vwCl [(a_this, .inr (3, [.ref a_cells, .ref a_losses, .ref a_rates, .int v_rateOnRime, .int v_air, .int v_steam, .int v_melt, .int v_needleAt, .int v_enoughFrost, .int v_causes, .int v_glassCell, .int v_left, .int v_rime, .int v_frost, .int v_round, .int v_begun, .int v_reads, .int v_last])), (a_cells, .inl (cI, 4, .inl (upd x4_cells j4 (0 : Int32)))), (a_losses, .inl (cI, 4, .inl v_losses)), (a_rates, .inl (cI, 4, .inl v_rates))] H := hP
          have hD : va_D A [(a_this, .inr (3, [.ref a_cells, .ref a_losses, .ref a_rates, .int v_rateOnRime, .int v_air, .int v_steam, .int v_melt, .int v_needleAt, .int v_enoughFrost, .int v_causes, .int v_glassCell, .int v_left, .int v_rime, .int v_frost, .int v_round, .int v_begun, .int v_reads, .int v_last])), (a_cells, .inl (cI, 4, .inl (upd x4_cells j4 (0 : Int32)))), (a_losses, .inl (cI, 4, .inl v_losses)), (a_rates, .inl (cI, 4, .inl v_rates))] := hD
          refine lv_iinc (v := nI (j4 + 1)) (lv' := [(2, .int (nI (j4 + 1))), (1, .int (x4_l1 - (x4_cells j4))), (0, .ref a_this)]) hx hb dX3_takeBelowNought_34 hl (k := 2) rfl (fx_inc _ 1) (by decide) rfl (fun ls hl => ?_)
          refine lv_goto (tgt := 4) hx hb dX3_takeBelowNought_37 (by decide) ?_
          exact ih4 (j4 + 1) (x4_l1 - (x4_cells j4)) (upd x4_cells j4 (0 : Int32)) (by omega) (by omega)  (by simp only [X3_takeBelowNought_L4, hx4, if_neg c6, if_neg c15]) _ _ hP hD hS ls (lv_sub hl [2, 1, 0] rfl)
  exact L4 (4 + 1) 0 (0 : Int32) v_cells (by omega) (by omega)  rfl _ _ hP hD hS ls (lv_sub hl [2, 1, 0] rfl)

def X3_needleStands_L2 (v_needleAt : Int32) (v_cells : Nat → Int32) : Nat → Nat → (Int32)
  | 0, j2 => (0 : Int32)
  | n + 1, j2 => (if (4 : Int32) ≤ nI j2 then (0 : Int32) else (if v_needleAt < (v_cells j2) then (X3_needleStands_L2 v_needleAt v_cells n (j2 + 1)) else (1 : Int32)))
def X3_needleStands (v_needleAt : Int32) (v_cells : Nat → Int32) : Int32 := (X3_needleStands_L2 v_needleAt v_cells 5 0)
abbrev rX3_needleStands : Room := { frames := 0, cells := 0, slots := 0, locals := 0 }
theorem bl_X3_needleStands (v_needleAt : Int32) (v_cells : Nat → Int32) : ∀ (n : Nat) (j2 : Nat), fx_b (X3_needleStands_L2 v_needleAt v_cells n j2) := by
  intro n
  induction n with
  | zero => intros; exact Or.inl rfl
  | succ n ih =>
    intros
    unfold X3_needleStands_L2
    repeat' split
    all_goals first | exact Or.inl rfl | exact Or.inr rfl | exact ih _
theorem b_X3_needleStands (v_needleAt : Int32) (v_cells : Nat → Int32) : fx_b (X3_needleStands v_needleAt v_cells) := by
  unfold X3_needleStands
  try unfold X3_needleStands
  repeat' split
  all_goals first | exact Or.inl rfl | exact Or.inr rfl | apply bl_X3_needleStands
theorem n_X3_needleStands_X3 : ∀ w ∈ wsX30, w ∈ wsX3_needleStands := by decide +kernel
set_option maxHeartbeats 8000000 in
set_option maxRecDepth 100000 in
theorem k_X3_needleStands (l : Launch) (G : fxE) (hG : fxGood G) (D : va_G) (cI cJ cZ cH : ClassId) (a_cells a_losses a_rates a_this : Nat) (v_rateOnRime : Int32) (v_air : Int32) (v_steam : Int32) (v_melt : Int32) (v_needleAt : Int32) (v_enoughFrost : Int32) (v_causes : Int32) (v_glassCell : Int32) (v_left : Int32) (v_rime : Int32) (v_frost : Int32) (v_round : Int32) (v_begun : Int32) (v_reads : Int32) (v_last : Int32) (v_cells : Nat → Int32) (v_losses : Nat → Int32) (v_rates : Nat → Int32) : MetI l yX3_needleStands wsX3_needleStands rX3_needleStands G D (tyL cI cJ cZ cH) [.ref a_this] [(a_this, .inr (3, [.ref a_cells, .ref a_losses, .ref a_rates, .int v_rateOnRime, .int v_air, .int v_steam, .int v_melt, .int v_needleAt, .int v_enoughFrost, .int v_causes, .int v_glassCell, .int v_left, .int v_rime, .int v_frost, .int v_round, .int v_begun, .int v_reads, .int v_last])), (a_cells, .inl (cI, 4, .inl v_cells)), (a_losses, .inl (cI, 4, .inl v_losses)), (a_rates, .inl (cI, 4, .inl v_rates))] (X3_needleStands v_needleAt v_cells) [(a_this, .inr (3, [.ref a_cells, .ref a_losses, .ref a_rates, .int v_rateOnRime, .int v_air, .int v_steam, .int v_melt, .int v_needleAt, .int v_enoughFrost, .int v_causes, .int v_glassCell, .int v_left, .int v_rime, .int v_frost, .int v_round, .int v_begun, .int v_reads, .int v_last])), (a_cells, .inl (cI, 4, .inl v_cells)), (a_losses, .inl (cI, 4, .inl v_losses)), (a_rates, .inl (cI, 4, .inl v_rates))] := by
  refine fx_startI (cc := cX3_needleStands) (n := 2) (rt := .boolean) (plainFor_of_name (by decide)) rfl (Nat.le_of_ble_eq_true rfl) (fx_nb (b_X3_needleStands v_needleAt v_cells)) ?_
  intro p e s m args below meth c A Q ls hx hb hml hown hts hA hGs hK hP hD hS hl hret
  have hl : lv_has ls 2 [(0, .ref a_this)] := hl
  have iX3 := n_X3_needleStands_X3
  have f9 := hts (.fieldLink RX3 9 "FrozeFirst$Run" "cells" "[I") (by decide +kernel)
  have f39 := hts (.fieldLink RX3 39 "FrozeFirst$Run" "needleAt" "I") (by decide +kernel)
  refine lv_iconst (v := 0) hx hb dX3_needleStands_0 (by decide) ?_
  refine lv_istore_n (lv' := [(1, .int (0 : Int32)), (0, .ref a_this)]) hx hb dX3_needleStands_1 rfl hl (by decide) rfl (fun ls hl => ?_)
  have hM0 : (X3_needleStands v_needleAt v_cells) = (X3_needleStands_L2 v_needleAt v_cells 5 0) := by simp only [X3_needleStands]
  have L2 : ∀ (n : Nat) (j2 : Nat), 4 - j2 < n → j2 ≤ 4 → X3_needleStands_L2 v_needleAt v_cells n j2 = (X3_needleStands_L2 v_needleAt v_cells 5 0) → ∀ (H : Heap) (locs : List Loc), va_P D vwCl [(a_this, .inr (3, [.ref a_cells, .ref a_losses, .ref a_rates, .int v_rateOnRime, .int v_air, .int v_steam, .int v_melt, .int v_needleAt, .int v_enoughFrost, .int v_causes, .int v_glassCell, .int v_left, .int v_rime, .int v_frost, .int v_round, .int v_begun, .int v_reads, .int v_last])), (a_cells, .inl (cI, 4, .inl v_cells)), (a_losses, .inl (cI, 4, .inl v_losses)), (a_rates, .inl (cI, 4, .inl v_rates))] H → va_D A [(a_this, .inr (3, [.ref a_cells, .ref a_losses, .ref a_rates, .int v_rateOnRime, .int v_air, .int v_steam, .int v_melt, .int v_needleAt, .int v_enoughFrost, .int v_causes, .int v_glassCell, .int v_left, .int v_rime, .int v_frost, .int v_round, .int v_begun, .int v_reads, .int v_last])), (a_cells, .inl (cI, 4, .inl v_cells)), (a_losses, .inl (cI, 4, .inl v_losses)), (a_rates, .inl (cI, 4, .inl v_rates))] → va_S A s.heap H locs → ∀ (ls : Array Slot), lv_has ls 2 [(0, .ref a_this), (1, .int (nI j2))] → W p l e rX3_needleStands s m args below meth c H locs 0 0 Q (F0 m 2 ls []) := by
    intro n
    induction n with
    | zero => intro j2 h1; exact absurd h1 (Nat.not_lt_zero _)
    | succ n ih2 =>
      intro j2 hm2 hj2 hF2 H locs hP hD hS ls hl
      refine lv_iload_n hx hb dX3_needleStands_2 rfl (lv_at hl 1 rfl) ?_
      refine lv_iconst (v := 4) hx hb dX3_needleStands_3 (by decide) ?_
      refine lv_icmp_ge (tgt := 28) hx hb dX3_needleStands_4 (by decide) (fun c4 => ?_) (fun c4 => ?_)
      · have n4 : 4 ≤ j2 := (fx_leN (x := (4 : Int32)) (y := (nI j2)) (a := 4) (b := j2) rfl rfl (by omega) (by omega)).mp c4
        refine lv_iconst (v := 0) hx hb dX3_needleStands_28 (by decide) ?_
        have hr2 : (X3_needleStands_L2 v_needleAt v_cells 5 0) = (0 : Int32) := hF2.symm.trans (by simp only [X3_needleStands_L2, if_pos c4])
        exact hret _ _ _ _ _ _ dX3_needleStands_29 (by rw [hM0, hr2]) rfl hP hD hS
      · have n4 : ¬ (4 ≤ j2) := fun h9 => c4 ((fx_leN (x := (4 : Int32)) (y := (nI j2)) (a := 4) (b := j2) rfl rfl (by omega) (by omega)).mpr h9)
        refine lv_aload_n hx hb dX3_needleStands_7 rfl (lv_at hl 0 rfl) ?_
        refine va_get (D := D) (ci := 3) (v := .ref a_cells) (C := RX3) (T := TX3) (N := 18) hx hb hts iX3 hown hK hP 0 rfl rfl 0 (by decide) f9 (fun _ h9 => h9) rfl dX3_needleStands_8 ?_
        refine lv_iload_n hx hb dX3_needleStands_11 rfl (lv_at hl 1 rfl) ?_
        refine fx_iald hx hb hK hP 1 0 rfl rfl j2 rfl (by omega) (by decide) dX3_needleStands_12 ?_
        refine lv_aload_n hx hb dX3_needleStands_13 rfl (lv_at hl 0 rfl) ?_
        refine va_get (D := D) (ci := 3) (v := .int v_needleAt) (C := RX3) (T := TX3) (N := 18) hx hb hts iX3 hown hK hP 0 rfl rfl 7 (by decide) f39 (fun _ h9 => h9) rfl dX3_needleStands_14 ?_
        refine lv_icmp_gt (tgt := 22) hx hb dX3_needleStands_17 (by decide) (fun c17 => ?_) (fun c17 => ?_)
        · refine lv_iinc (v := nI (j2 + 1)) (lv' := [(1, .int (nI (j2 + 1))), (0, .ref a_this)]) hx hb dX3_needleStands_22 hl (k := 1) rfl (fx_inc _ 1) (by decide) rfl (fun ls hl => ?_)
          refine lv_goto (tgt := 2) hx hb dX3_needleStands_25 (by decide) ?_
          exact ih2 (j2 + 1) (by omega) (by omega) (by rw [← hF2]; simp only [X3_needleStands_L2, if_neg c4, if_pos c17]) _ _ hP hD hS ls (lv_sub hl [1, 0] rfl)
        · refine lv_iconst (v := 1) hx hb dX3_needleStands_20 (by decide) ?_
          have hr2 : (X3_needleStands_L2 v_needleAt v_cells 5 0) = (1 : Int32) := hF2.symm.trans (by simp only [X3_needleStands_L2, if_neg c4, if_neg c17])
          exact hret _ _ _ _ _ _ dX3_needleStands_21 (by rw [hM0, hr2]) rfl hP hD hS
  exact L2 5 0 (by omega) (by omega) rfl _ _ hP hD hS ls (lv_sub hl [1, 0] rfl)

def X3_freeze_o_frost (v_needleAt : Int32) (v_enoughFrost : Int32) (v_frost : Int32) (v_begun : Int32) (v_cells : Nat → Int32) : Int32 := (if v_begun = (601 : Int32) then (if (X3_needleStands v_needleAt v_cells) = 0 then v_frost else v_frost) else (if (v_frost + (X3_takeBelowNought v_cells)) < v_enoughFrost then (v_frost + (X3_takeBelowNought v_cells)) else (v_frost + (X3_takeBelowNought v_cells))))
def X3_freeze_o_begun (v_needleAt : Int32) (v_enoughFrost : Int32) (v_frost : Int32) (v_round : Int32) (v_begun : Int32) (v_cells : Nat → Int32) : Int32 := (if v_begun = (601 : Int32) then (if (X3_needleStands v_needleAt v_cells) = 0 then v_begun else v_round) else (if (v_frost + (X3_takeBelowNought v_cells)) < v_enoughFrost then v_begun else v_begun))
def X3_freeze_o_last (v_needleAt : Int32) (v_enoughFrost : Int32) (v_frost : Int32) (v_round : Int32) (v_begun : Int32) (v_last : Int32) (v_cells : Nat → Int32) : Int32 := (if v_begun = (601 : Int32) then (if (X3_needleStands v_needleAt v_cells) = 0 then v_last else v_last) else (if (v_frost + (X3_takeBelowNought v_cells)) < v_enoughFrost then v_last else v_round))
def X3_freeze_o_cells (v_needleAt : Int32) (v_enoughFrost : Int32) (v_frost : Int32) (v_begun : Int32) (v_cells : Nat → Int32) : Nat → Int32 := (if v_begun = (601 : Int32) then (if (X3_needleStands v_needleAt v_cells) = 0 then v_cells else (X3_takeBelowNought_o_cells v_cells)) else (if (v_frost + (X3_takeBelowNought v_cells)) < v_enoughFrost then (X3_takeBelowNought_o_cells v_cells) else (X3_takeBelowNought_o_cells v_cells)))
abbrev rX3_freeze : Room := { frames := 1, cells := 0, slots := 0, locals := 22 }
theorem n_X3_freeze_X3 : ∀ w ∈ wsX30, w ∈ wsX3_freeze := by decide +kernel
set_option maxHeartbeats 8000000 in
set_option maxRecDepth 100000 in
theorem k_X3_freeze (l : Launch) (G : fxE) (hG : fxGood G) (D : va_G) (cI cJ cZ cH : ClassId) (a_cells a_losses a_rates a_this : Nat) (v_rateOnRime : Int32) (v_air : Int32) (v_steam : Int32) (v_melt : Int32) (v_needleAt : Int32) (v_enoughFrost : Int32) (v_causes : Int32) (v_glassCell : Int32) (v_left : Int32) (v_rime : Int32) (v_frost : Int32) (v_round : Int32) (v_begun : Int32) (v_reads : Int32) (v_last : Int32) (v_cells : Nat → Int32) (v_losses : Nat → Int32) (v_rates : Nat → Int32) : MetV l yX3_freeze wsX3_freeze rX3_freeze G D (tyL cI cJ cZ cH) [.ref a_this] [(a_this, .inr (3, [.ref a_cells, .ref a_losses, .ref a_rates, .int v_rateOnRime, .int v_air, .int v_steam, .int v_melt, .int v_needleAt, .int v_enoughFrost, .int v_causes, .int v_glassCell, .int v_left, .int v_rime, .int v_frost, .int v_round, .int v_begun, .int v_reads, .int v_last])), (a_cells, .inl (cI, 4, .inl v_cells)), (a_losses, .inl (cI, 4, .inl v_losses)), (a_rates, .inl (cI, 4, .inl v_rates))] [(a_this, .inr (3, [.ref a_cells, .ref a_losses, .ref a_rates, .int v_rateOnRime, .int v_air, .int v_steam, .int v_melt, .int v_needleAt, .int v_enoughFrost, .int v_causes, .int v_glassCell, .int v_left, .int v_rime, .int (X3_freeze_o_frost v_needleAt v_enoughFrost v_frost v_begun v_cells), .int v_round, .int (X3_freeze_o_begun v_needleAt v_enoughFrost v_frost v_round v_begun v_cells), .int v_reads, .int (X3_freeze_o_last v_needleAt v_enoughFrost v_frost v_round v_begun v_last v_cells)])), (a_cells, .inl (cI, 4, .inl (X3_freeze_o_cells v_needleAt v_enoughFrost v_frost v_begun v_cells))), (a_losses, .inl (cI, 4, .inl v_losses)), (a_rates, .inl (cI, 4, .inl v_rates))] := by
  refine fx_startV (cc := cX3_freeze) (n := 1) (plainFor_of_name (by decide)) rfl (Nat.le_of_ble_eq_true rfl) ?_
  intro p e s m args below meth c A Q ls hx hb hml hown hts hA hGs hK hP hD hS hl hret
  have hl : lv_has ls 1 [(0, .ref a_this)] := hl
  have iX3 := n_X3_freeze_X3
  have f71 := hts (.fieldLink RX3 71 "FrozeFirst$Run" "begun" "I") (by decide +kernel)
  have f68 := hts (.fieldLink RX3 68 "FrozeFirst$Run" "round" "I") (by decide +kernel)
  have f65 := hts (.fieldLink RX3 65 "FrozeFirst$Run" "frost" "I") (by decide +kernel)
  have f42 := hts (.fieldLink RX3 42 "FrozeFirst$Run" "enoughFrost" "I") (by decide +kernel)
  have f77 := hts (.fieldLink RX3 77 "FrozeFirst$Run" "last" "I") (by decide +kernel)
  refine lv_aload_n hx hb dX3_freeze_0 rfl (lv_at hl 0 rfl) ?_
  refine va_get (D := D) (ci := 3) (v := .int v_begun) (C := RX3) (T := TX3) (N := 18) hx hb hts iX3 hown hK hP 0 rfl rfl 15 (by decide) f71 (fun _ h9 => h9) rfl dX3_freeze_1 ?_
  refine lv_sipush (v := 601) hx hb dX3_freeze_4 (by decide) ?_
  refine lv_icmp_eq (tgt := 45) hx hb dX3_freeze_7 (by decide) (fun c7 => ?_) (fun c7 => ?_)
  · refine lv_aload_n hx hb dX3_freeze_45 rfl (lv_at hl 0 rfl) ?_
    refine fx_callVI (As := []) (rest := []) (wr := []) ⟨hx, hb, hml, hown, hts⟩ hG hGs (k_X3_needleStands l G hG D cI cJ cZ cH a_cells a_losses a_rates a_this v_rateOnRime v_air v_steam v_melt v_needleAt v_enoughFrost v_causes v_glassCell v_left v_rime v_frost v_round v_begun v_reads v_last v_cells v_losses v_rates  ) (cwV 0 hts gX3_freeze_X3_needleStands rfl rfl rfl (by decide +kernel) ⟨by decide, by decide⟩) hK hP hD hS hA [0, 1, 2, 3] [] rfl rfl (by decide) (by decide) (by decide) 0 rfl rfl rfl rfl hl.1 (Nat.le_of_ble_eq_true rfl) dX3_freeze_46 (Nat.zero_le _) (Nat.zero_le _) (fun H locs hP hD hS => ?_)
    have hP : va_P D vwCl [(a_this, .inr (3, [.ref a_cells, .ref a_losses, .ref a_rates, .int v_rateOnRime, .int v_air, .int v_steam, .int v_melt, .int v_needleAt, .int v_enoughFrost, .int v_causes, .int v_glassCell, .int v_left, .int v_rime, .int v_frost, .int v_round, .int v_begun, .int v_reads, .int v_last])), (a_cells, .inl (cI, 4, .inl v_cells)), (a_losses, .inl (cI, 4, .inl v_losses)), (a_rates, .inl (cI, 4, .inl v_rates))] H := hP
    have hD : va_D A [(a_this, .inr (3, [.ref a_cells, .ref a_losses, .ref a_rates, .int v_rateOnRime, .int v_air, .int v_steam, .int v_melt, .int v_needleAt, .int v_enoughFrost, .int v_causes, .int v_glassCell, .int v_left, .int v_rime, .int v_frost, .int v_round, .int v_begun, .int v_reads, .int v_last])), (a_cells, .inl (cI, 4, .inl v_cells)), (a_losses, .inl (cI, 4, .inl v_losses)), (a_rates, .inl (cI, 4, .inl v_rates))] := hD
    refine lv_if_eq (tgt := 65) hx hb dX3_freeze_49 (by decide) (fun c49 => ?_) (fun c49 => ?_)
    · exact hret _ _ _ _ _ dX3_freeze_65 (by simp only [X3_freeze_o_frost, X3_freeze_o_begun, X3_freeze_o_last, X3_freeze_o_cells, if_pos c7, if_pos c49]) hP hD hS
    · refine lv_aload_n hx hb dX3_freeze_52 rfl (lv_at hl 0 rfl) ?_
      refine lv_aload_n hx hb dX3_freeze_53 rfl (lv_at hl 0 rfl) ?_
      refine va_get (D := D) (ci := 3) (v := .int v_round) (C := RX3) (T := TX3) (N := 18) hx hb hts iX3 hown hK hP 0 rfl rfl 14 (by decide) f68 (fun _ h9 => h9) rfl dX3_freeze_54 ?_
      refine va_put (D := D) (ci := 3) (v := .int v_round) (ty := .int) (C := RX3) (T := TX3) (N := 18) hx hb hts iX3 tyX3 tyX3_ok nmX3 hown hK hP hD hS 0 rfl rfl 15 (by decide) f71 (fun _ h9 => h9) rfl (tyX3_ok 15 (by decide)) rfl rfl (Nat.le_of_ble_eq_true rfl) dX3_freeze_57 (fun H locs hP hD hS => ?_)
      have hP : va_P D vwCl [(a_this, .inr (3, [.ref a_cells, .ref a_losses, .ref a_rates, .int v_rateOnRime, .int v_air, .int v_steam, .int v_melt, .int v_needleAt, .int v_enoughFrost, .int v_causes, .int v_glassCell, .int v_left, .int v_rime, .int v_frost, .int v_round, .int v_round, .int v_reads, .int v_last])), (a_cells, .inl (cI, 4, .inl v_cells)), (a_losses, .inl (cI, 4, .inl v_losses)), (a_rates, .inl (cI, 4, .inl v_rates))] H := hP
      have hD : va_D A [(a_this, .inr (3, [.ref a_cells, .ref a_losses, .ref a_rates, .int v_rateOnRime, .int v_air, .int v_steam, .int v_melt, .int v_needleAt, .int v_enoughFrost, .int v_causes, .int v_glassCell, .int v_left, .int v_rime, .int v_frost, .int v_round, .int v_round, .int v_reads, .int v_last])), (a_cells, .inl (cI, 4, .inl v_cells)), (a_losses, .inl (cI, 4, .inl v_losses)), (a_rates, .inl (cI, 4, .inl v_rates))] := hD
      refine lv_aload_n hx hb dX3_freeze_60 rfl (lv_at hl 0 rfl) ?_
      refine fx_callVI (As := []) (rest := []) (wr := []) ⟨hx, hb, hml, hown, hts⟩ hG hGs (k_X3_takeBelowNought l G hG D cI cJ cZ cH a_cells a_losses a_rates a_this v_rateOnRime v_air v_steam v_melt v_needleAt v_enoughFrost v_causes v_glassCell v_left v_rime v_frost v_round v_round v_reads v_last v_cells v_losses v_rates  ) (cwV 0 hts gX3_freeze_X3_takeBelowNought rfl rfl rfl (by decide +kernel) ⟨by decide, by decide⟩) hK hP hD hS hA [0, 1, 2, 3] [] rfl rfl (by decide) (by decide) (by decide) 0 rfl rfl rfl rfl hl.1 (Nat.le_of_ble_eq_true rfl) dX3_freeze_61 (Nat.zero_le _) (Nat.zero_le _) (fun H locs hP hD hS => ?_)
      have hP : va_P D vwCl [(a_this, .inr (3, [.ref a_cells, .ref a_losses, .ref a_rates, .int v_rateOnRime, .int v_air, .int v_steam, .int v_melt, .int v_needleAt, .int v_enoughFrost, .int v_causes, .int v_glassCell, .int v_left, .int v_rime, .int v_frost, .int v_round, .int v_round, .int v_reads, .int v_last])), (a_cells, .inl (cI, 4, .inl (X3_takeBelowNought_o_cells v_cells))), (a_losses, .inl (cI, 4, .inl v_losses)), (a_rates, .inl (cI, 4, .inl v_rates))] H := hP
      have hD : va_D A [(a_this, .inr (3, [.ref a_cells, .ref a_losses, .ref a_rates, .int v_rateOnRime, .int v_air, .int v_steam, .int v_melt, .int v_needleAt, .int v_enoughFrost, .int v_causes, .int v_glassCell, .int v_left, .int v_rime, .int v_frost, .int v_round, .int v_round, .int v_reads, .int v_last])), (a_cells, .inl (cI, 4, .inl (X3_takeBelowNought_o_cells v_cells))), (a_losses, .inl (cI, 4, .inl v_losses)), (a_rates, .inl (cI, 4, .inl v_rates))] := hD
      refine lv_pop hx hb dX3_freeze_64 rfl ?_
      exact hret _ _ _ _ _ dX3_freeze_65 (by simp only [X3_freeze_o_frost, X3_freeze_o_begun, X3_freeze_o_last, X3_freeze_o_cells, if_pos c7, if_neg c49]) hP hD hS
  · refine lv_aload_n hx hb dX3_freeze_10 rfl (lv_at hl 0 rfl) ?_
    refine lv_dup hx hb dX3_freeze_11 rfl ?_
    refine va_get (D := D) (ci := 3) (v := .int v_frost) (C := RX3) (T := TX3) (N := 18) hx hb hts iX3 hown hK hP 0 rfl rfl 13 (by decide) f65 (fun _ h9 => h9) rfl dX3_freeze_12 ?_
    refine lv_aload_n hx hb dX3_freeze_15 rfl (lv_at hl 0 rfl) ?_
    refine fx_callVI (As := []) (rest := [.int v_frost, .ref a_this]) (wr := []) ⟨hx, hb, hml, hown, hts⟩ hG hGs (k_X3_takeBelowNought l G hG D cI cJ cZ cH a_cells a_losses a_rates a_this v_rateOnRime v_air v_steam v_melt v_needleAt v_enoughFrost v_causes v_glassCell v_left v_rime v_frost v_round v_begun v_reads v_last v_cells v_losses v_rates  ) (cwV 0 hts gX3_freeze_X3_takeBelowNought rfl rfl rfl (by decide +kernel) ⟨by decide, by decide⟩) hK hP hD hS hA [0, 1, 2, 3] [] rfl rfl (by decide) (by decide) (by decide) 0 rfl rfl rfl rfl hl.1 (Nat.le_of_ble_eq_true rfl) dX3_freeze_16 (Nat.zero_le _) (Nat.zero_le _) (fun H locs hP hD hS => ?_)
    have hP : va_P D vwCl [(a_this, .inr (3, [.ref a_cells, .ref a_losses, .ref a_rates, .int v_rateOnRime, .int v_air, .int v_steam, .int v_melt, .int v_needleAt, .int v_enoughFrost, .int v_causes, .int v_glassCell, .int v_left, .int v_rime, .int v_frost, .int v_round, .int v_begun, .int v_reads, .int v_last])), (a_cells, .inl (cI, 4, .inl (X3_takeBelowNought_o_cells v_cells))), (a_losses, .inl (cI, 4, .inl v_losses)), (a_rates, .inl (cI, 4, .inl v_rates))] H := hP
    have hD : va_D A [(a_this, .inr (3, [.ref a_cells, .ref a_losses, .ref a_rates, .int v_rateOnRime, .int v_air, .int v_steam, .int v_melt, .int v_needleAt, .int v_enoughFrost, .int v_causes, .int v_glassCell, .int v_left, .int v_rime, .int v_frost, .int v_round, .int v_begun, .int v_reads, .int v_last])), (a_cells, .inl (cI, 4, .inl (X3_takeBelowNought_o_cells v_cells))), (a_losses, .inl (cI, 4, .inl v_losses)), (a_rates, .inl (cI, 4, .inl v_rates))] := hD
    refine lv_iadd hx hb dX3_freeze_19 ?_
    refine va_put (D := D) (ci := 3) (v := .int (v_frost + (X3_takeBelowNought v_cells))) (ty := .int) (C := RX3) (T := TX3) (N := 18) hx hb hts iX3 tyX3 tyX3_ok nmX3 hown hK hP hD hS 0 rfl rfl 13 (by decide) f65 (fun _ h9 => h9) rfl (tyX3_ok 13 (by decide)) rfl rfl (Nat.le_of_ble_eq_true rfl) dX3_freeze_20 (fun H locs hP hD hS => ?_)
    have hP : va_P D vwCl [(a_this, .inr (3, [.ref a_cells, .ref a_losses, .ref a_rates, .int v_rateOnRime, .int v_air, .int v_steam, .int v_melt, .int v_needleAt, .int v_enoughFrost, .int v_causes, .int v_glassCell, .int v_left, .int v_rime, .int (v_frost + (X3_takeBelowNought v_cells)), .int v_round, .int v_begun, .int v_reads, .int v_last])), (a_cells, .inl (cI, 4, .inl (X3_takeBelowNought_o_cells v_cells))), (a_losses, .inl (cI, 4, .inl v_losses)), (a_rates, .inl (cI, 4, .inl v_rates))] H := hP
    have hD : va_D A [(a_this, .inr (3, [.ref a_cells, .ref a_losses, .ref a_rates, .int v_rateOnRime, .int v_air, .int v_steam, .int v_melt, .int v_needleAt, .int v_enoughFrost, .int v_causes, .int v_glassCell, .int v_left, .int v_rime, .int (v_frost + (X3_takeBelowNought v_cells)), .int v_round, .int v_begun, .int v_reads, .int v_last])), (a_cells, .inl (cI, 4, .inl (X3_takeBelowNought_o_cells v_cells))), (a_losses, .inl (cI, 4, .inl v_losses)), (a_rates, .inl (cI, 4, .inl v_rates))] := hD
    refine lv_aload_n hx hb dX3_freeze_23 rfl (lv_at hl 0 rfl) ?_
    refine va_get (D := D) (ci := 3) (v := .int (v_frost + (X3_takeBelowNought v_cells))) (C := RX3) (T := TX3) (N := 18) hx hb hts iX3 hown hK hP 0 rfl rfl 13 (by decide) f65 (fun _ h9 => h9) rfl dX3_freeze_24 ?_
    refine lv_aload_n hx hb dX3_freeze_27 rfl (lv_at hl 0 rfl) ?_
    refine va_get (D := D) (ci := 3) (v := .int v_enoughFrost) (C := RX3) (T := TX3) (N := 18) hx hb hts iX3 hown hK hP 0 rfl rfl 8 (by decide) f42 (fun _ h9 => h9) rfl dX3_freeze_28 ?_
    refine lv_icmp_lt (tgt := 65) hx hb dX3_freeze_31 (by decide) (fun c31 => ?_) (fun c31 => ?_)
    · exact hret _ _ _ _ _ dX3_freeze_65 (by simp only [X3_freeze_o_frost, X3_freeze_o_begun, X3_freeze_o_last, X3_freeze_o_cells, if_neg c7, if_pos c31]) hP hD hS
    · refine lv_aload_n hx hb dX3_freeze_34 rfl (lv_at hl 0 rfl) ?_
      refine lv_aload_n hx hb dX3_freeze_35 rfl (lv_at hl 0 rfl) ?_
      refine va_get (D := D) (ci := 3) (v := .int v_round) (C := RX3) (T := TX3) (N := 18) hx hb hts iX3 hown hK hP 0 rfl rfl 14 (by decide) f68 (fun _ h9 => h9) rfl dX3_freeze_36 ?_
      refine va_put (D := D) (ci := 3) (v := .int v_round) (ty := .int) (C := RX3) (T := TX3) (N := 18) hx hb hts iX3 tyX3 tyX3_ok nmX3 hown hK hP hD hS 0 rfl rfl 17 (by decide) f77 (fun _ h9 => h9) rfl (tyX3_ok 17 (by decide)) rfl rfl (Nat.le_of_ble_eq_true rfl) dX3_freeze_39 (fun H locs hP hD hS => ?_)
      have hP : va_P D vwCl [(a_this, .inr (3, [.ref a_cells, .ref a_losses, .ref a_rates, .int v_rateOnRime, .int v_air, .int v_steam, .int v_melt, .int v_needleAt, .int v_enoughFrost, .int v_causes, .int v_glassCell, .int v_left, .int v_rime, .int (v_frost + (X3_takeBelowNought v_cells)), .int v_round, .int v_begun, .int v_reads, .int v_round])), (a_cells, .inl (cI, 4, .inl (X3_takeBelowNought_o_cells v_cells))), (a_losses, .inl (cI, 4, .inl v_losses)), (a_rates, .inl (cI, 4, .inl v_rates))] H := hP
      have hD : va_D A [(a_this, .inr (3, [.ref a_cells, .ref a_losses, .ref a_rates, .int v_rateOnRime, .int v_air, .int v_steam, .int v_melt, .int v_needleAt, .int v_enoughFrost, .int v_causes, .int v_glassCell, .int v_left, .int v_rime, .int (v_frost + (X3_takeBelowNought v_cells)), .int v_round, .int v_begun, .int v_reads, .int v_round])), (a_cells, .inl (cI, 4, .inl (X3_takeBelowNought_o_cells v_cells))), (a_losses, .inl (cI, 4, .inl v_losses)), (a_rates, .inl (cI, 4, .inl v_rates))] := hD
      refine lv_goto (tgt := 65) hx hb dX3_freeze_42 (by decide) ?_
      exact hret _ _ _ _ _ dX3_freeze_65 (by simp only [X3_freeze_o_frost, X3_freeze_o_begun, X3_freeze_o_last, X3_freeze_o_cells, if_neg c7, if_neg c31]) hP hD hS

def X3_reckonLosses_m20_s0 (v_causes : Int32) (v_rime : Int32) : Int32 := (if (X3_works v_causes (2 : Int32)) = 0 then (0 : Int32) else (if v_rime ≤ 0 then (0 : Int32) else (1 : Int32)))
def X3_reckonLosses_m61_s0 (v_rateOnRime : Int32) (v_causes : Int32) (v_rime : Int32) (v_rates : Nat → Int32) (j34 : Nat) : Int32 := (if (X3_reckonLosses_m20_s0 v_causes v_rime) = 0 then (v_rates j34) else (if nI j34 = (3 : Int32) then v_rateOnRime else (v_rates j34)))
def X3_reckonLosses_L34 (v_rateOnRime : Int32) (v_air : Int32) (v_causes : Int32) (v_left : Int32) (v_rime : Int32) (v_cells : Nat → Int32) (v_losses : Nat → Int32) (v_rates : Nat → Int32) : Nat → (Nat → Int32)
  | 0 => v_losses
  | j34 + 1 => (upd (X3_reckonLosses_L34 v_rateOnRime v_air v_causes v_left v_rime v_cells v_losses v_rates j34) j34 ((((((v_cells j34) + v_air) * (X3_reckonLosses_m61_s0 v_rateOnRime v_causes v_rime v_rates j34)) / (1000 : Int32)) * (100000 : Int32)) / (if (10000 : Int32) < v_left then v_left else (10000 : Int32))))
def X3_reckonLosses_o_losses (v_rateOnRime : Int32) (v_air : Int32) (v_causes : Int32) (v_left : Int32) (v_rime : Int32) (v_cells : Nat → Int32) (v_losses : Nat → Int32) (v_rates : Nat → Int32) : Nat → Int32 := (X3_reckonLosses_L34 v_rateOnRime v_air v_causes v_left v_rime v_cells v_losses v_rates 4)
abbrev rX3_reckonLosses : Room := { frames := 1, cells := 0, slots := 0, locals := 21 }
theorem n_X3_reckonLosses_X3 : ∀ w ∈ wsX30, w ∈ wsX3_reckonLosses := by decide +kernel
set_option maxHeartbeats 8000000 in
set_option maxRecDepth 100000 in
theorem k_X3_reckonLosses (l : Launch) (G : fxE) (hG : fxGood G) (D : va_G) (cI cJ cZ cH : ClassId) (a_cells a_losses a_rates a_this : Nat) (v_rateOnRime : Int32) (v_air : Int32) (v_steam : Int32) (v_melt : Int32) (v_needleAt : Int32) (v_enoughFrost : Int32) (v_causes : Int32) (v_glassCell : Int32) (v_left : Int32) (v_rime : Int32) (v_frost : Int32) (v_round : Int32) (v_begun : Int32) (v_reads : Int32) (v_last : Int32) (v_cells : Nat → Int32) (v_losses : Nat → Int32) (v_rates : Nat → Int32) : MetV l yX3_reckonLosses wsX3_reckonLosses rX3_reckonLosses G D (tyL cI cJ cZ cH) [.ref a_this] [(a_this, .inr (3, [.ref a_cells, .ref a_losses, .ref a_rates, .int v_rateOnRime, .int v_air, .int v_steam, .int v_melt, .int v_needleAt, .int v_enoughFrost, .int v_causes, .int v_glassCell, .int v_left, .int v_rime, .int v_frost, .int v_round, .int v_begun, .int v_reads, .int v_last])), (a_cells, .inl (cI, 4, .inl v_cells)), (a_losses, .inl (cI, 4, .inl v_losses)), (a_rates, .inl (cI, 4, .inl v_rates))] [(a_this, .inr (3, [.ref a_cells, .ref a_losses, .ref a_rates, .int v_rateOnRime, .int v_air, .int v_steam, .int v_melt, .int v_needleAt, .int v_enoughFrost, .int v_causes, .int v_glassCell, .int v_left, .int v_rime, .int v_frost, .int v_round, .int v_begun, .int v_reads, .int v_last])), (a_cells, .inl (cI, 4, .inl v_cells)), (a_losses, .inl (cI, 4, .inl (X3_reckonLosses_o_losses v_rateOnRime v_air v_causes v_left v_rime v_cells v_losses v_rates))), (a_rates, .inl (cI, 4, .inl v_rates))] := by
  refine fx_startV (cc := cX3_reckonLosses) (n := 5) (plainFor_of_name (by decide)) rfl (Nat.le_of_ble_eq_true rfl) ?_
  intro p e s m args below meth c A Q ls hx hb hml hown hts hA hGs hK hP hD hS hl hret
  have hl : lv_has ls 5 [(0, .ref a_this)] := hl
  have iX3 := n_X3_reckonLosses_X3
  have f62 := hts (.fieldLink RX3 62 "FrozeFirst$Run" "rime" "I") (by decide +kernel)
  have f59 := hts (.fieldLink RX3 59 "FrozeFirst$Run" "left" "I") (by decide +kernel)
  have m97 := hts (.methodLink RX3 97 Lib.Math.max.name) (by decide +kernel)
  have msmax := hts (.static Lib.Math.max.name) (by decide +kernel)
  have mi := hts (.initialized "java/lang/Math") (by decide +kernel)
  have mcmax := hts (.code Lib.Math.max.name Lib.Math.max.code 2 (some .int)) (by decide +kernel)
  have f18 := hts (.fieldLink RX3 18 "FrozeFirst$Run" "rates" "[I") (by decide +kernel)
  have f26 := hts (.fieldLink RX3 26 "FrozeFirst$Run" "rateOnRime" "I") (by decide +kernel)
  have f15 := hts (.fieldLink RX3 15 "FrozeFirst$Run" "losses" "[I") (by decide +kernel)
  have f9 := hts (.fieldLink RX3 9 "FrozeFirst$Run" "cells" "[I") (by decide +kernel)
  have f30 := hts (.fieldLink RX3 30 "FrozeFirst$Run" "air" "I") (by decide +kernel)
  have k109 := hts (.constant RX3 109 100000) (by decide +kernel)
  refine lv_aload_n hx hb dX3_reckonLosses_0 rfl (lv_at hl 0 rfl) ?_
  refine lv_iconst (v := 2) hx hb dX3_reckonLosses_1 (by decide) ?_
  refine fx_callVI (As := [.int (2 : Int32)]) (rest := []) (wr := []) ⟨hx, hb, hml, hown, hts⟩ hG hGs (k_X3_works l G hG D cI cJ cZ cH a_cells a_losses a_rates a_this v_rateOnRime v_air v_steam v_melt v_needleAt v_enoughFrost v_causes v_glassCell v_left v_rime v_frost v_round v_begun v_reads v_last v_cells v_losses v_rates (2 : Int32)  ) (cwV 1 hts gX3_reckonLosses_X3_works rfl rfl rfl (by decide +kernel) ⟨by decide, by decide⟩) hK hP hD hS hA [0, 1, 2, 3] [] rfl rfl (by decide) (by decide) (by decide) 0 rfl rfl rfl rfl hl.1 (Nat.le_of_ble_eq_true rfl) dX3_reckonLosses_2 (Nat.zero_le _) (Nat.zero_le _) (fun H locs hP hD hS => ?_)
  have hP : va_P D vwCl [(a_this, .inr (3, [.ref a_cells, .ref a_losses, .ref a_rates, .int v_rateOnRime, .int v_air, .int v_steam, .int v_melt, .int v_needleAt, .int v_enoughFrost, .int v_causes, .int v_glassCell, .int v_left, .int v_rime, .int v_frost, .int v_round, .int v_begun, .int v_reads, .int v_last])), (a_cells, .inl (cI, 4, .inl v_cells)), (a_losses, .inl (cI, 4, .inl v_losses)), (a_rates, .inl (cI, 4, .inl v_rates))] H := hP
  have hD : va_D A [(a_this, .inr (3, [.ref a_cells, .ref a_losses, .ref a_rates, .int v_rateOnRime, .int v_air, .int v_steam, .int v_melt, .int v_needleAt, .int v_enoughFrost, .int v_causes, .int v_glassCell, .int v_left, .int v_rime, .int v_frost, .int v_round, .int v_begun, .int v_reads, .int v_last])), (a_cells, .inl (cI, 4, .inl v_cells)), (a_losses, .inl (cI, 4, .inl v_losses)), (a_rates, .inl (cI, 4, .inl v_rates))] := hD
  have C20 : ∀ (x20_s0 : Int32), (X3_reckonLosses_m20_s0 v_causes v_rime) = x20_s0 → ∀ (H : Heap) (locs : List Loc), va_P D vwCl [(a_this, .inr (3, [.ref a_cells, .ref a_losses, .ref a_rates, .int v_rateOnRime, .int v_air, .int v_steam, .int v_melt, .int v_needleAt, .int v_enoughFrost, .int v_causes, .int v_glassCell, .int v_left, .int v_rime, .int v_frost, .int v_round, .int v_begun, .int v_reads, .int v_last])), (a_cells, .inl (cI, 4, .inl v_cells)), (a_losses, .inl (cI, 4, .inl v_losses)), (a_rates, .inl (cI, 4, .inl v_rates))] H → va_D A [(a_this, .inr (3, [.ref a_cells, .ref a_losses, .ref a_rates, .int v_rateOnRime, .int v_air, .int v_steam, .int v_melt, .int v_needleAt, .int v_enoughFrost, .int v_causes, .int v_glassCell, .int v_left, .int v_rime, .int v_frost, .int v_round, .int v_begun, .int v_reads, .int v_last])), (a_cells, .inl (cI, 4, .inl v_cells)), (a_losses, .inl (cI, 4, .inl v_losses)), (a_rates, .inl (cI, 4, .inl v_rates))] → va_S A s.heap H locs → ∀ (ls : Array Slot), lv_has ls 5 [(0, .ref a_this)] → W p l e rX3_reckonLosses s m args below meth c H locs 0 0 Q (F0 m 20 ls [.int x20_s0]) := by
    intro x20_s0 hx20_s0 H locs hP hD hS ls hl
    subst hx20_s0
    refine lv_istore_n (lv' := [(1, .int (X3_reckonLosses_m20_s0 v_causes v_rime)), (0, .ref a_this)]) hx hb dX3_reckonLosses_20 rfl hl (by decide) rfl (fun ls hl => ?_)
    refine lv_sipush (v := 10000) hx hb dX3_reckonLosses_21 (by decide) ?_
    refine lv_aload_n hx hb dX3_reckonLosses_24 rfl (lv_at hl 1 rfl) ?_
    refine va_get (D := D) (ci := 3) (v := .int v_left) (C := RX3) (T := TX3) (N := 18) hx hb hts iX3 hown hK hP 0 rfl rfl 11 (by decide) f59 (fun _ h9 => h9) rfl dX3_reckonLosses_25 ?_
    refine va_mmax hx hb (by rw [hml]; exact hl.1.symm) hown m97 msmax mi mcmax (by decide) (Nat.le_of_ble_eq_true rfl) (Nat.zero_le _) (Nat.zero_le _) dX3_reckonLosses_28 ?_
    refine lv_istore_n (lv' := [(2, .int (if (10000 : Int32) < v_left then v_left else (10000 : Int32))), (1, .int (X3_reckonLosses_m20_s0 v_causes v_rime)), (0, .ref a_this)]) hx hb dX3_reckonLosses_31 rfl hl (by decide) rfl (fun ls hl => ?_)
    refine lv_iconst (v := 0) hx hb dX3_reckonLosses_32 (by decide) ?_
    refine lv_istore_n (lv' := [(3, .int (0 : Int32)), (2, .int (if (10000 : Int32) < v_left then v_left else (10000 : Int32))), (1, .int (X3_reckonLosses_m20_s0 v_causes v_rime)), (0, .ref a_this)]) hx hb dX3_reckonLosses_33 rfl hl (by decide) rfl (fun ls hl => ?_)
    have L34 : ∀ (n j34 : Nat) (x34_losses : Nat → Int32), j34 ≤ 4 → 4 + 1 ≤ j34 + n → X3_reckonLosses_L34 v_rateOnRime v_air v_causes v_left v_rime v_cells v_losses v_rates j34 = x34_losses → ∀ (H : Heap) (locs : List Loc), va_P D vwCl [(a_this, .inr (3, [.ref a_cells, .ref a_losses, .ref a_rates, .int v_rateOnRime, .int v_air, .int v_steam, .int v_melt, .int v_needleAt, .int v_enoughFrost, .int v_causes, .int v_glassCell, .int v_left, .int v_rime, .int v_frost, .int v_round, .int v_begun, .int v_reads, .int v_last])), (a_cells, .inl (cI, 4, .inl v_cells)), (a_losses, .inl (cI, 4, .inl x34_losses)), (a_rates, .inl (cI, 4, .inl v_rates))] H → va_D A [(a_this, .inr (3, [.ref a_cells, .ref a_losses, .ref a_rates, .int v_rateOnRime, .int v_air, .int v_steam, .int v_melt, .int v_needleAt, .int v_enoughFrost, .int v_causes, .int v_glassCell, .int v_left, .int v_rime, .int v_frost, .int v_round, .int v_begun, .int v_reads, .int v_last])), (a_cells, .inl (cI, 4, .inl v_cells)), (a_losses, .inl (cI, 4, .inl x34_losses)), (a_rates, .inl (cI, 4, .inl v_rates))] → va_S A s.heap H locs → ∀ (ls : Array Slot), lv_has ls 5 [(0, .ref a_this), (1, .int (X3_reckonLosses_m20_s0 v_causes v_rime)), (2, .int (if (10000 : Int32) < v_left then v_left else (10000 : Int32))), (3, .int (nI j34))] → W p l e rX3_reckonLosses s m args below meth c H locs 0 0 Q (F0 m 34 ls []) := by
      intro n
      induction n with
      | zero => intro j34 x34_losses h1 h2; exact absurd h2 (by omega)
      | succ n ih34 =>
        intro j34 x34_losses hj34 hn34  hx34 H locs hP hD hS ls hl
        refine lv_iload_n hx hb dX3_reckonLosses_34 rfl (lv_at hl 3 rfl) ?_
        refine lv_iconst (v := 4) hx hb dX3_reckonLosses_35 (by decide) ?_
        refine lv_icmp_ge (tgt := 98) hx hb dX3_reckonLosses_36 (by decide) (fun c36 => ?_) (fun c36 => ?_)
        · have n36 : 4 ≤ j34 := (fx_leN (x := (4 : Int32)) (y := (nI j34)) (a := 4) (b := j34) rfl rfl (by omega) (by omega)).mp c36
          have e34 : 4 = j34 := by omega
          subst e34
          subst hx34
          have hl := lv_sub (l' := []) hl [] rfl
          have hP : va_P D vwCl [(a_this, .inr (3, [.ref a_cells, .ref a_losses, .ref a_rates, .int v_rateOnRime, .int v_air, .int v_steam, .int v_melt, .int v_needleAt, .int v_enoughFrost, .int v_causes, .int v_glassCell, .int v_left, .int v_rime, .int v_frost, .int v_round, .int v_begun, .int v_reads, .int v_last])), (a_cells, .inl (cI, 4, .inl v_cells)), (a_losses, .inl (cI, 4, .inl (X3_reckonLosses_L34 v_rateOnRime v_air v_causes v_left v_rime v_cells v_losses v_rates 4))), (a_rates, .inl (cI, 4, .inl v_rates))] H := hP
          have hD : va_D A [(a_this, .inr (3, [.ref a_cells, .ref a_losses, .ref a_rates, .int v_rateOnRime, .int v_air, .int v_steam, .int v_melt, .int v_needleAt, .int v_enoughFrost, .int v_causes, .int v_glassCell, .int v_left, .int v_rime, .int v_frost, .int v_round, .int v_begun, .int v_reads, .int v_last])), (a_cells, .inl (cI, 4, .inl v_cells)), (a_losses, .inl (cI, 4, .inl (X3_reckonLosses_L34 v_rateOnRime v_air v_causes v_left v_rime v_cells v_losses v_rates 4))), (a_rates, .inl (cI, 4, .inl v_rates))] := hD
          exact hret _ _ _ _ _ dX3_reckonLosses_98 (by simp only [X3_reckonLosses_o_losses, if_pos c36]) hP hD hS
        · have n36 : ¬ (4 ≤ j34) := fun h9 => c36 ((fx_leN (x := (4 : Int32)) (y := (nI j34)) (a := 4) (b := j34) rfl rfl (by omega) (by omega)).mpr h9)
          refine lv_iload_n hx hb dX3_reckonLosses_39 rfl (lv_at hl 1 rfl) ?_
          have C61 : ∀ (x61_s0 : Int32), (X3_reckonLosses_m61_s0 v_rateOnRime v_causes v_rime v_rates j34) = x61_s0 → ∀ (H : Heap) (locs : List Loc), va_P D vwCl [(a_this, .inr (3, [.ref a_cells, .ref a_losses, .ref a_rates, .int v_rateOnRime, .int v_air, .int v_steam, .int v_melt, .int v_needleAt, .int v_enoughFrost, .int v_causes, .int v_glassCell, .int v_left, .int v_rime, .int v_frost, .int v_round, .int v_begun, .int v_reads, .int v_last])), (a_cells, .inl (cI, 4, .inl v_cells)), (a_losses, .inl (cI, 4, .inl x34_losses)), (a_rates, .inl (cI, 4, .inl v_rates))] H → va_D A [(a_this, .inr (3, [.ref a_cells, .ref a_losses, .ref a_rates, .int v_rateOnRime, .int v_air, .int v_steam, .int v_melt, .int v_needleAt, .int v_enoughFrost, .int v_causes, .int v_glassCell, .int v_left, .int v_rime, .int v_frost, .int v_round, .int v_begun, .int v_reads, .int v_last])), (a_cells, .inl (cI, 4, .inl v_cells)), (a_losses, .inl (cI, 4, .inl x34_losses)), (a_rates, .inl (cI, 4, .inl v_rates))] → va_S A s.heap H locs → ∀ (ls : Array Slot), lv_has ls 5 [(0, .ref a_this), (1, .int (X3_reckonLosses_m20_s0 v_causes v_rime)), (2, .int (if (10000 : Int32) < v_left then v_left else (10000 : Int32))), (3, .int (nI j34))] → W p l e rX3_reckonLosses s m args below meth c H locs 0 0 Q (F0 m 61 ls [.int x61_s0]) := by
            intro x61_s0 hx61_s0 H locs hP hD hS ls hl
            subst hx61_s0
            refine lv_istore (lv' := [(4, .int (X3_reckonLosses_m61_s0 v_rateOnRime v_causes v_rime v_rates j34)), (0, .ref a_this), (1, .int (X3_reckonLosses_m20_s0 v_causes v_rime)), (2, .int (if (10000 : Int32) < v_left then v_left else (10000 : Int32))), (3, .int (nI j34))]) hx hb dX3_reckonLosses_61 hl (by decide) rfl (fun ls hl => ?_)
            refine lv_aload_n hx hb dX3_reckonLosses_63 rfl (lv_at hl 1 rfl) ?_
            refine va_get (D := D) (ci := 3) (v := .ref a_losses) (C := RX3) (T := TX3) (N := 18) hx hb hts iX3 hown hK hP 0 rfl rfl 1 (by decide) f15 (fun _ h9 => h9) rfl dX3_reckonLosses_64 ?_
            refine lv_iload_n hx hb dX3_reckonLosses_67 rfl (lv_at hl 4 rfl) ?_
            refine lv_aload_n hx hb dX3_reckonLosses_68 rfl (lv_at hl 1 rfl) ?_
            refine va_get (D := D) (ci := 3) (v := .ref a_cells) (C := RX3) (T := TX3) (N := 18) hx hb hts iX3 hown hK hP 0 rfl rfl 0 (by decide) f9 (fun _ h9 => h9) rfl dX3_reckonLosses_69 ?_
            refine lv_iload_n hx hb dX3_reckonLosses_72 rfl (lv_at hl 4 rfl) ?_
            refine fx_iald hx hb hK hP 1 0 rfl rfl j34 rfl (by omega) (by decide) dX3_reckonLosses_73 ?_
            refine lv_aload_n hx hb dX3_reckonLosses_74 rfl (lv_at hl 1 rfl) ?_
            refine va_get (D := D) (ci := 3) (v := .int v_air) (C := RX3) (T := TX3) (N := 18) hx hb hts iX3 hown hK hP 0 rfl rfl 4 (by decide) f30 (fun _ h9 => h9) rfl dX3_reckonLosses_75 ?_
            refine lv_iadd hx hb dX3_reckonLosses_78 ?_
            refine lv_iload hx hb dX3_reckonLosses_79 (lv_at hl 0 rfl) ?_
            refine lv_imul hx hb dX3_reckonLosses_81 ?_
            refine lv_sipush (v := 1000) hx hb dX3_reckonLosses_82 (by decide) ?_
            refine lv_idiv hx hb dX3_reckonLosses_85 (by decide) ?_
            refine lv_ldc (v := 100000) hx hb hown k109 dX3_reckonLosses_86 ?_
            refine lv_imul hx hb dX3_reckonLosses_88 ?_
            refine lv_iload_n hx hb dX3_reckonLosses_89 rfl (lv_at hl 3 rfl) ?_
            refine lv_idiv hx hb dX3_reckonLosses_90 (fx_mx _) ?_
            refine fx_iast hx hb hK hP hD hS 2 0 rfl rfl j34 rfl (by omega) (by decide) dX3_reckonLosses_91 (fun H locs hP hD hS => ?_)
            have hP : va_P D vwCl [(a_this, .inr (3, [.ref a_cells, .ref a_losses, .ref a_rates, .int v_rateOnRime, .int v_air, .int v_steam, .int v_melt, .int v_needleAt, .int v_enoughFrost, .int v_causes, .int v_glassCell, .int v_left, .int v_rime, .int v_frost, .int v_round, .int v_begun, .int v_reads, .int v_last])), (a_cells, .inl (cI, 4, .inl v_cells)), (a_losses, .inl (cI, 4, .inl (upd x34_losses j34 ((((((v_cells j34) + v_air) * (X3_reckonLosses_m61_s0 v_rateOnRime v_causes v_rime v_rates j34)) / (1000 : Int32)) * (100000 : Int32)) / (if (10000 : Int32) < v_left then v_left else (10000 : Int32)))))), (a_rates, .inl (cI, 4, .inl v_rates))] H := hP
            have hD : va_D A [(a_this, .inr (3, [.ref a_cells, .ref a_losses, .ref a_rates, .int v_rateOnRime, .int v_air, .int v_steam, .int v_melt, .int v_needleAt, .int v_enoughFrost, .int v_causes, .int v_glassCell, .int v_left, .int v_rime, .int v_frost, .int v_round, .int v_begun, .int v_reads, .int v_last])), (a_cells, .inl (cI, 4, .inl v_cells)), (a_losses, .inl (cI, 4, .inl (upd x34_losses j34 ((((((v_cells j34) + v_air) * (X3_reckonLosses_m61_s0 v_rateOnRime v_causes v_rime v_rates j34)) / (1000 : Int32)) * (100000 : Int32)) / (if (10000 : Int32) < v_left then v_left else (10000 : Int32)))))), (a_rates, .inl (cI, 4, .inl v_rates))] := hD
            refine lv_iinc (v := nI (j34 + 1)) (lv' := [(3, .int (nI (j34 + 1))), (4, .int (X3_reckonLosses_m61_s0 v_rateOnRime v_causes v_rime v_rates j34)), (0, .ref a_this), (1, .int (X3_reckonLosses_m20_s0 v_causes v_rime)), (2, .int (if (10000 : Int32) < v_left then v_left else (10000 : Int32)))]) hx hb dX3_reckonLosses_92 hl (k := 4) rfl (fx_inc _ 1) (by decide) rfl (fun ls hl => ?_)
            refine lv_goto (tgt := 34) hx hb dX3_reckonLosses_95 (by decide) ?_
            exact ih34 (j34 + 1) (upd x34_losses j34 ((((((v_cells j34) + v_air) * (X3_reckonLosses_m61_s0 v_rateOnRime v_causes v_rime v_rates j34)) / (1000 : Int32)) * (100000 : Int32)) / (if (10000 : Int32) < v_left then v_left else (10000 : Int32)))) (by omega) (by omega)  (by simp only [X3_reckonLosses_L34, hx34, if_neg c36]) _ _ hP hD hS ls (lv_sub hl [2, 3, 4, 0] rfl)
          refine lv_if_eq (tgt := 55) hx hb dX3_reckonLosses_40 (by decide) (fun c40 => ?_) (fun c40 => ?_)
          · refine lv_aload_n hx hb dX3_reckonLosses_55 rfl (lv_at hl 0 rfl) ?_
            refine va_get (D := D) (ci := 3) (v := .ref a_rates) (C := RX3) (T := TX3) (N := 18) hx hb hts iX3 hown hK hP 0 rfl rfl 2 (by decide) f18 (fun _ h9 => h9) rfl dX3_reckonLosses_56 ?_
            refine lv_iload_n hx hb dX3_reckonLosses_59 rfl (lv_at hl 3 rfl) ?_
            refine fx_iald hx hb hK hP 3 0 rfl rfl j34 rfl (by omega) (by decide) dX3_reckonLosses_60 ?_
            exact C61 (v_rates j34) (by simp only [X3_reckonLosses_m61_s0, if_neg c36, if_pos c40]) _ _ hP hD hS ls (lv_sub hl [0, 1, 2, 3] rfl)
          · refine lv_iload_n hx hb dX3_reckonLosses_43 rfl (lv_at hl 3 rfl) ?_
            refine lv_iconst (v := 3) hx hb dX3_reckonLosses_44 (by decide) ?_
            refine lv_icmp_ne (tgt := 55) hx hb dX3_reckonLosses_45 (by decide) (fun c45 => ?_) (fun c45 => ?_)
            · have n45 : ¬ (j34 = 3) := fun h9 => c45 ((fx_eqN (x := (nI j34)) (y := (3 : Int32)) (a := j34) (b := 3) rfl rfl (by omega) (by omega)).mpr h9)
              refine lv_aload_n hx hb dX3_reckonLosses_55 rfl (lv_at hl 0 rfl) ?_
              refine va_get (D := D) (ci := 3) (v := .ref a_rates) (C := RX3) (T := TX3) (N := 18) hx hb hts iX3 hown hK hP 0 rfl rfl 2 (by decide) f18 (fun _ h9 => h9) rfl dX3_reckonLosses_56 ?_
              refine lv_iload_n hx hb dX3_reckonLosses_59 rfl (lv_at hl 3 rfl) ?_
              refine fx_iald hx hb hK hP 3 0 rfl rfl j34 rfl (by omega) (by decide) dX3_reckonLosses_60 ?_
              exact C61 (v_rates j34) (by simp only [X3_reckonLosses_m61_s0, if_neg c36, if_neg c40, if_neg c45]) _ _ hP hD hS ls (lv_sub hl [0, 1, 2, 3] rfl)
            · have n45 : j34 = 3 := (fx_eqN (x := (nI j34)) (y := (3 : Int32)) (a := j34) (b := 3) rfl rfl (by omega) (by omega)).mp c45
              refine lv_aload_n hx hb dX3_reckonLosses_48 rfl (lv_at hl 0 rfl) ?_
              refine va_get (D := D) (ci := 3) (v := .int v_rateOnRime) (C := RX3) (T := TX3) (N := 18) hx hb hts iX3 hown hK hP 0 rfl rfl 3 (by decide) f26 (fun _ h9 => h9) rfl dX3_reckonLosses_49 ?_
              refine lv_goto (tgt := 61) hx hb dX3_reckonLosses_52 (by decide) ?_
              exact C61 v_rateOnRime (by simp only [X3_reckonLosses_m61_s0, if_neg c36, if_neg c40, if_pos c45]) _ _ hP hD hS ls (lv_sub hl [0, 1, 2, 3] rfl)
    exact L34 (4 + 1) 0 v_losses (by omega) (by omega)  rfl _ _ hP hD hS ls (lv_sub hl [3, 2, 1, 0] rfl)
  refine lv_if_eq (tgt := 19) hx hb dX3_reckonLosses_5 (by decide) (fun c5 => ?_) (fun c5 => ?_)
  · refine lv_iconst (v := 0) hx hb dX3_reckonLosses_19 (by decide) ?_
    exact C20 (0 : Int32) (by simp only [X3_reckonLosses_m20_s0, if_pos c5]) _ _ hP hD hS ls (lv_sub hl [0] rfl)
  · refine lv_aload_n hx hb dX3_reckonLosses_8 rfl (lv_at hl 0 rfl) ?_
    refine va_get (D := D) (ci := 3) (v := .int v_rime) (C := RX3) (T := TX3) (N := 18) hx hb hts iX3 hown hK hP 0 rfl rfl 12 (by decide) f62 (fun _ h9 => h9) rfl dX3_reckonLosses_9 ?_
    refine lv_if_le (tgt := 19) hx hb dX3_reckonLosses_12 (by decide) (fun c12 => ?_) (fun c12 => ?_)
    · refine lv_iconst (v := 0) hx hb dX3_reckonLosses_19 (by decide) ?_
      exact C20 (0 : Int32) (by simp only [X3_reckonLosses_m20_s0, if_neg c5, if_pos c12]) _ _ hP hD hS ls (lv_sub hl [0] rfl)
    · refine lv_iconst (v := 1) hx hb dX3_reckonLosses_15 (by decide) ?_
      refine lv_goto (tgt := 20) hx hb dX3_reckonLosses_16 (by decide) ?_
      exact C20 (1 : Int32) (by simp only [X3_reckonLosses_m20_s0, if_neg c5, if_neg c12]) _ _ hP hD hS ls (lv_sub hl [0] rfl)
