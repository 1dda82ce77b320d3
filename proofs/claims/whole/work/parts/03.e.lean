def X1_readRow_L11 (v_often : Nat → Int32) (p_row : Int64) : Nat → Int64 × Int32 × (Nat → Int32)
  | 0 => (p_row, (0 : Int32), v_often)
  | j11 + 1 => (((X1_readRow_L11 v_often p_row j11).1 / (10 : Int64)), ((X1_readRow_L11 v_often p_row j11).2.1 + ((upd (X1_readRow_L11 v_often p_row j11).2.2 (9 - j11) (((X1_readRow_L11 v_often p_row j11).1 - (X1_readRow_L11 v_often p_row j11).1 / (10 : Int64) * (10 : Int64)).toInt32)) (9 - j11))), (upd (X1_readRow_L11 v_often p_row j11).2.2 (9 - j11) (((X1_readRow_L11 v_often p_row j11).1 - (X1_readRow_L11 v_often p_row j11).1 / (10 : Int64) * (10 : Int64)).toInt32)))
def X1_readRow_o_together (v_often : Nat → Int32) (p_row : Int64) : Int32 := ((X1_readRow_L11 v_often p_row 10).2.1)
def X1_readRow_o_often (v_often : Nat → Int32) (p_row : Int64) : Nat → Int32 := ((X1_readRow_L11 v_often p_row 10).2.2)
abbrev rX1_readRow : Room := { frames := 0, cells := 0, slots := 0, locals := 0 }
theorem n_X1_readRow_X1 : ∀ w ∈ wsX10, w ∈ wsX1_readRow := by decide +kernel
set_option maxHeartbeats 8000000 in
set_option maxRecDepth 100000 in
theorem k_X1_readRow (l : Launch) (G : fxE) (hG : fxGood G) (D : va_G) (cI cJ cZ cH : ClassId) (a_often a_times a_this : Nat) (v_together : Int32) (v_often : Nat → Int32) (v_times : Nat → Int32) (p_row : Int64) : MetV l yX1_readRow wsX1_readRow rX1_readRow G D (tyL cI cJ cZ cH) [.ref a_this, .long p_row] [(a_this, .inr (1, [.ref a_often, .ref a_times, .int v_together])), (a_often, .inl (cI, 10, .inl v_often)), (a_times, .inl (cI, 10, .inl v_times))] [(a_this, .inr (1, [.ref a_often, .ref a_times, .int (X1_readRow_o_together v_often p_row)])), (a_often, .inl (cI, 10, .inl (X1_readRow_o_often v_often p_row))), (a_times, .inl (cI, 10, .inl v_times))] := by
  refine fx_startV (cc := cX1_readRow) (n := 6) (plainFor_of_name (by decide)) rfl (Nat.le_of_ble_eq_true rfl) ?_
  intro p e s m args below meth c A Q ls hx hb hml hown hts hA hGs hK hP hD hS hl hret
  have hl : lv_has ls 6 [(0, .ref a_this), (1, .long p_row)] := hl
  have iX1 := n_X1_readRow_X1
  have f18 := hts (.fieldLink RX1 18 "FrozeFirst$Needles" "together" "I") (by decide +kernel)
  have f9 := hts (.fieldLink RX1 9 "FrozeFirst$Needles" "often" "[I") (by decide +kernel)
  have k22 := hts (.constantLong RX1 22 10) (by decide +kernel)
  refine lv_lload_n hx hb dX1_readRow_0 rfl (lv_at hl 1 rfl) ?_
  refine lv_lstore_n (lv' := [(3, .long p_row), (0, .ref a_this), (1, .long p_row)]) hx hb dX1_readRow_1 rfl hl (by decide) rfl (fun ls hl => ?_)
  refine lv_aload_n hx hb dX1_readRow_2 rfl (lv_at hl 1 rfl) ?_
  refine lv_iconst (v := 0) hx hb dX1_readRow_3 (by decide) ?_
  refine va_put (D := D) (ci := 1) (v := .int (0 : Int32)) (ty := .int) (C := RX1) (T := TX1) (N := 3) hx hb hts iX1 tyX1 tyX1_ok nmX1 hown hK hP hD hS 0 rfl rfl 2 (by decide) f18 (fun _ h9 => h9) rfl (tyX1_ok 2 (by decide)) rfl rfl (Nat.le_of_ble_eq_true rfl) dX1_readRow_4 (fun H locs hP hD hS => ?_)
  have hP : va_P D vwCl [(a_this, .inr (1, [.ref a_often, .ref a_times, .int (0 : Int32)])), (a_often, .inl (cI, 10, .inl v_often)), (a_times, .inl (cI, 10, .inl v_times))] H := hP
  have hD : va_D A [(a_this, .inr (1, [.ref a_often, .ref a_times, .int (0 : Int32)])), (a_often, .inl (cI, 10, .inl v_often)), (a_times, .inl (cI, 10, .inl v_times))] := hD
  refine lv_bipush (v := 9) hx hb dX1_readRow_7 (by decide) ?_
  refine lv_istore (lv' := [(5, .int (9 : Int32)), (3, .long p_row), (0, .ref a_this), (1, .long p_row)]) hx hb dX1_readRow_9 hl (by decide) rfl (fun ls hl => ?_)
  have L11 : ∀ (n j11 : Nat) (x11_l3 : Int64) (x11_together : Int32) (x11_often : Nat → Int32), j11 ≤ 10 → 10 + 1 ≤ j11 + n → X1_readRow_L11 v_often p_row j11 = (x11_l3, x11_together, x11_often) → ∀ (H : Heap) (locs : List Loc), va_P D vwCl [(a_this, .inr (1, [.ref a_often, .ref a_times, .int x11_together])), (a_often, .inl (cI, 10, .inl x11_often)), (a_times, .inl (cI, 10, .inl v_times))] H → va_D A [(a_this, .inr (1, [.ref a_often, .ref a_times, .int x11_together])), (a_often, .inl (cI, 10, .inl x11_often)), (a_times, .inl (cI, 10, .inl v_times))] → va_S A s.heap H locs → ∀ (ls : Array Slot), lv_has ls 6 [(0, .ref a_this), (3, .long x11_l3), (5, .int (fx_dn 9 j11))] → W p l e rX1_readRow s m args below meth c H locs 0 0 Q (F0 m 11 ls []) := by
    intro n
    induction n with
    | zero => intro j11 x11_l3 x11_together x11_often h1 h2; exact absurd h2 (by omega)
    | succ n ih11 =>
      intro j11 x11_l3 x11_together x11_often hj11 hn11  hx11 H locs hP hD hS ls hl
      refine lv_iload hx hb dX1_readRow_11 (lv_at hl 2 rfl) ?_
      refine lv_if_lt (tgt := 57) hx hb dX1_readRow_13 (by decide) (fun c13 => ?_) (fun c13 => ?_)
      · have n13 : 9 < j11 := (fx_dn_lt (by decide) (by omega)).mp c13
        have e11 : 10 = j11 := by omega
        subst e11
        have q11_0 : x11_l3 = (X1_readRow_L11 v_often p_row 10).1 := by rw [hx11]
        have q11_1 : x11_together = (X1_readRow_L11 v_often p_row 10).2.1 := by rw [hx11]
        have q11_2 : x11_often = (X1_readRow_L11 v_often p_row 10).2.2 := by rw [hx11]
        subst q11_0
        subst q11_1
        subst q11_2
        have hl := lv_sub (l' := []) hl [] rfl
        have hP : va_P D vwCl [(a_this, .inr (1, [.ref a_often, .ref a_times, .int ((X1_readRow_L11 v_often p_row 10).2.1)])), (a_often, .inl (cI, 10, .inl ((X1_readRow_L11 v_often p_row 10).2.2))), (a_times, .inl (cI, 10, .inl v_times))] H := hP
        have hD : va_D A [(a_this, .inr (1, [.ref a_often, .ref a_times, .int ((X1_readRow_L11 v_often p_row 10).2.1)])), (a_often, .inl (cI, 10, .inl ((X1_readRow_L11 v_often p_row 10).2.2))), (a_times, .inl (cI, 10, .inl v_times))] := hD
        exact hret _ _ _ _ _ dX1_readRow_57 (by simp only [X1_readRow_o_together, X1_readRow_o_often, if_pos c13]) hP hD hS
      · have n13 : ¬ (9 < j11) := fun h9 => c13 ((fx_dn_lt (by decide) (by omega)).mpr h9)
        refine lv_aload_n hx hb dX1_readRow_16 rfl (lv_at hl 0 rfl) ?_
        refine va_get (D := D) (ci := 1) (v := .ref a_often) (C := RX1) (T := TX1) (N := 3) hx hb hts iX1 hown hK hP 0 rfl rfl 0 (by decide) f9 (fun _ h9 => h9) rfl dX1_readRow_17 ?_
        refine lv_iload hx hb dX1_readRow_20 (lv_at hl 2 rfl) ?_
        refine lv_lload_n hx hb dX1_readRow_22 rfl (lv_at hl 1 rfl) ?_
        refine lv_ldc2 (v := 10) hx hb hown k22 dX1_readRow_23 ?_
        refine lv_lrem hx hb dX1_readRow_26 (by decide) ?_
        refine lv_l2i hx hb dX1_readRow_27 rfl ?_
        refine fx_iast hx hb hK hP hD hS 1 0 rfl rfl (9 - j11) (fx_dn_nat (by omega)) (by omega) (by decide) dX1_readRow_28 (fun H locs hP hD hS => ?_)
        have hP : va_P D vwCl [(a_this, .inr (1, [.ref a_often, .ref a_times, .int x11_together])), (a_often, .inl (cI, 10, .inl (upd x11_often (9 - j11) ((x11_l3 - x11_l3 / (10 : Int64) * (10 : Int64)).toInt32)))), (a_times, .inl (cI, 10, .inl v_times))] H := hP
        have hD : va_D A [(a_this, .inr (1, [.ref a_often, .ref a_times, .int x11_together])), (a_often, .inl (cI, 10, .inl (upd x11_often (9 - j11) ((x11_l3 - x11_l3 / (10 : Int64) * (10 : Int64)).toInt32)))), (a_times, .inl (cI, 10, .inl v_times))] := hD
        refine lv_aload_n hx hb dX1_readRow_29 rfl (lv_at hl 0 rfl) ?_
        refine lv_dup hx hb dX1_readRow_30 rfl ?_
        refine va_get (D := D) (ci := 1) (v := .int x11_together) (C := RX1) (T := TX1) (N := 3) hx hb hts iX1 hown hK hP 0 rfl rfl 2 (by decide) f18 (fun _ h9 => h9) rfl dX1_readRow_31 ?_
        refine lv_aload_n hx hb dX1_readRow_34 rfl (lv_at hl 0 rfl) ?_
        refine va_get (D := D) (ci := 1) (v := .ref a_often) (C := RX1) (T := TX1) (N := 3) hx hb hts iX1 hown hK hP 0 rfl rfl 0 (by decide) f9 (fun _ h9 => h9) rfl dX1_readRow_35 ?_
        refine lv_iload hx hb dX1_readRow_38 (lv_at hl 2 rfl) ?_
        refine fx_iald hx hb hK hP 1 0 rfl rfl (9 - j11) (fx_dn_nat (by omega)) (by omega) (by decide) dX1_readRow_40 ?_
        refine lv_iadd hx hb dX1_readRow_41 ?_
        refine va_put (D := D) (ci := 1) (v := .int (x11_together + ((upd x11_often (9 - j11) ((x11_l3 - x11_l3 / (10 : Int64) * (10 : Int64)).toInt32)) (9 - j11)))) (ty := .int) (C := RX1) (T := TX1) (N := 3) hx hb hts iX1 tyX1 tyX1_ok nmX1 hown hK hP hD hS 0 rfl rfl 2 (by decide) f18 (fun _ h9 => h9) rfl (tyX1_ok 2 (by decide)) rfl rfl (Nat.le_of_ble_eq_true rfl) dX1_readRow_42 (fun H locs hP hD hS => ?_)
        have hP : va_P D vwCl [(a_this, .inr (1, [.ref a_often, .ref a_times, .int (x11_together + ((upd x11_often (9 - j11) ((x11_l3 - x11_l3 / (10 : Int64) * (10 : Int64)).toInt32)) (9 - j11)))])), (a_often, .inl (cI, 10, .inl (upd x11_often (9 - j11) ((x11_l3 - x11_l3 / (10 : Int64) * (10 : Int64)).toInt32)))), (a_times, .inl (cI, 10, .inl v_times))] H := hP
        have hD : va_D A [(a_this, .inr (1, [.ref a_often, .ref a_times, .int (x11_together + ((upd x11_often (9 - j11) ((x11_l3 - x11_l3 / (10 : Int64) * (10 : Int64)).toInt32)) (9 - j11)))])), (a_often, .inl (cI, 10, .inl (upd x11_often (9 - j11) ((x11_l3 - x11_l3 / (10 : Int64) * (10 : Int64)).toInt32)))), (a_times, .inl (cI, 10, .inl v_times))] := hD
        refine lv_lload_n hx hb dX1_readRow_45 rfl (lv_at hl 1 rfl) ?_
        refine lv_ldc2 (v := 10) hx hb hown k22 dX1_readRow_46 ?_
        refine lv_ldiv hx hb dX1_readRow_49 (by decide) ?_
        refine lv_lstore_n (lv' := [(3, .long (x11_l3 / (10 : Int64))), (0, .ref a_this), (5, .int (fx_dn 9 j11))]) hx hb dX1_readRow_50 rfl hl (by decide) rfl (fun ls hl => ?_)
        refine lv_iinc (v := fx_dn 9 (j11 + 1)) (lv' := [(5, .int (fx_dn 9 (j11 + 1))), (3, .long (x11_l3 / (10 : Int64))), (0, .ref a_this)]) hx hb dX1_readRow_51 hl (k := 2) rfl (fx_dn_dec _ _) (by decide) rfl (fun ls hl => ?_)
        refine lv_goto (tgt := 11) hx hb dX1_readRow_54 (by decide) ?_
        exact ih11 (j11 + 1) (x11_l3 / (10 : Int64)) (x11_together + ((upd x11_often (9 - j11) ((x11_l3 - x11_l3 / (10 : Int64) * (10 : Int64)).toInt32)) (9 - j11))) (upd x11_often (9 - j11) ((x11_l3 - x11_l3 / (10 : Int64) * (10 : Int64)).toInt32)) (by omega) (by omega)  (by simp only [X1_readRow_L11, hx11, if_neg c13]) _ _ hP hD hS ls (lv_sub hl [2, 1, 0] rfl)
  exact L11 (10 + 1) 0 p_row (0 : Int32) v_often (by omega) (by omega)  rfl _ _ hP hD hS ls (lv_sub hl [2, 1, 0] rfl)

def X1_timeDrawn_L21 (v_often : Nat → Int32) (v_times : Nat → Int32) : Nat → Nat → Int32 → (Int32)
  | 0, j21, x21_l2 => (0 : Int32)
  | n + 1, j21, x21_l2 => (if (10 : Int32) ≤ nI j21 then (601 : Int32) else (if (v_often j21) ≤ x21_l2 then (X1_timeDrawn_L21 v_often v_times n (j21 + 1) (x21_l2 - (v_often j21))) else (v_times j21)))
def X1_timeDrawn (v_together : Int32) (v_often : Nat → Int32) (v_times : Nat → Int32) (p_drawn : Int32) : Int32 := (if (1 : Int32) ≤ v_together then (X1_timeDrawn_L21 v_often v_times 11 0 (p_drawn - p_drawn / v_together * v_together)) else (601 : Int32))
abbrev rX1_timeDrawn : Room := { frames := 0, cells := 0, slots := 0, locals := 0 }
theorem n_X1_timeDrawn_X1 : ∀ w ∈ wsX10, w ∈ wsX1_timeDrawn := by decide +kernel
set_option maxHeartbeats 8000000 in
set_option maxRecDepth 100000 in
theorem k_X1_timeDrawn (l : Launch) (G : fxE) (hG : fxGood G) (D : va_G) (cI cJ cZ cH : ClassId) (a_often a_times a_this : Nat) (v_together : Int32) (v_often : Nat → Int32) (v_times : Nat → Int32) (p_drawn : Int32) : MetI l yX1_timeDrawn wsX1_timeDrawn rX1_timeDrawn G D (tyL cI cJ cZ cH) [.ref a_this, .int p_drawn] [(a_this, .inr (1, [.ref a_often, .ref a_times, .int v_together])), (a_often, .inl (cI, 10, .inl v_often)), (a_times, .inl (cI, 10, .inl v_times))] (X1_timeDrawn v_together v_often v_times p_drawn) [(a_this, .inr (1, [.ref a_often, .ref a_times, .int v_together])), (a_often, .inl (cI, 10, .inl v_often)), (a_times, .inl (cI, 10, .inl v_times))] := by
  refine fx_startI (cc := cX1_timeDrawn) (n := 4) (rt := .int) (plainFor_of_name (by decide)) rfl (Nat.le_of_ble_eq_true rfl) rfl ?_
  intro p e s m args below meth c A Q ls hx hb hml hown hts hA hGs hK hP hD hS hl hret
  have hl : lv_has ls 4 [(0, .ref a_this), (1, .int p_drawn)] := hl
  have iX1 := n_X1_timeDrawn_X1
  have f18 := hts (.fieldLink RX1 18 "FrozeFirst$Needles" "together" "I") (by decide +kernel)
  have f9 := hts (.fieldLink RX1 9 "FrozeFirst$Needles" "often" "[I") (by decide +kernel)
  have f15 := hts (.fieldLink RX1 15 "FrozeFirst$Needles" "times" "[I") (by decide +kernel)
  refine lv_aload_n hx hb dX1_timeDrawn_0 rfl (lv_at hl 0 rfl) ?_
  refine va_get (D := D) (ci := 1) (v := .int v_together) (C := RX1) (T := TX1) (N := 3) hx hb hts iX1 hown hK hP 0 rfl rfl 2 (by decide) f18 (fun _ h9 => h9) rfl dX1_timeDrawn_1 ?_
  refine lv_iconst (v := 1) hx hb dX1_timeDrawn_4 (by decide) ?_
  refine lv_icmp_ge (tgt := 12) hx hb dX1_timeDrawn_5 (by decide) (fun c5 => ?_) (fun c5 => ?_)
  · refine lv_iload_n hx hb dX1_timeDrawn_12 rfl (lv_at hl 1 rfl) ?_
    refine lv_aload_n hx hb dX1_timeDrawn_13 rfl (lv_at hl 0 rfl) ?_
    refine va_get (D := D) (ci := 1) (v := .int v_together) (C := RX1) (T := TX1) (N := 3) hx hb hts iX1 hown hK hP 0 rfl rfl 2 (by decide) f18 (fun _ h9 => h9) rfl dX1_timeDrawn_14 ?_
    refine lv_irem hx hb dX1_timeDrawn_17 (fx_ne1 c5) ?_
    refine lv_istore_n (lv' := [(2, .int (p_drawn - p_drawn / v_together * v_together)), (0, .ref a_this), (1, .int p_drawn)]) hx hb dX1_timeDrawn_18 rfl hl (by decide) rfl (fun ls hl => ?_)
    refine lv_iconst (v := 0) hx hb dX1_timeDrawn_19 (by decide) ?_
    refine lv_istore_n (lv' := [(3, .int (0 : Int32)), (2, .int (p_drawn - p_drawn / v_together * v_together)), (0, .ref a_this), (1, .int p_drawn)]) hx hb dX1_timeDrawn_20 rfl hl (by decide) rfl (fun ls hl => ?_)
    have hM0 : (X1_timeDrawn v_together v_often v_times p_drawn) = (X1_timeDrawn_L21 v_often v_times 11 0 (p_drawn - p_drawn / v_together * v_together)) := by simp only [X1_timeDrawn, if_pos c5]
    have L21 : ∀ (n : Nat) (j21 : Nat) (x21_l2 : Int32), 10 - j21 < n → j21 ≤ 10 → X1_timeDrawn_L21 v_often v_times n j21 x21_l2 = (X1_timeDrawn_L21 v_often v_times 11 0 (p_drawn - p_drawn / v_together * v_together)) → ∀ (H : Heap) (locs : List Loc), va_P D vwCl [(a_this, .inr (1, [.ref a_often, .ref a_times, .int v_together])), (a_often, .inl (cI, 10, .inl v_often)), (a_times, .inl (cI, 10, .inl v_times))] H → va_D A [(a_this, .inr (1, [.ref a_often, .ref a_times, .int v_together])), (a_often, .inl (cI, 10, .inl v_often)), (a_times, .inl (cI, 10, .inl v_times))] → va_S A s.heap H locs → ∀ (ls : Array Slot), lv_has ls 4 [(0, .ref a_this), (2, .int x21_l2), (3, .int (nI j21))] → W p l e rX1_timeDrawn s m args below meth c H locs 0 0 Q (F0 m 21 ls []) := by
      intro n
      induction n with
      | zero => intro j21 x21_l2 h1; exact absurd h1 (Nat.not_lt_zero _)
      | succ n ih21 =>
        intro j21 x21_l2 hm21 hj21 hF21 H locs hP hD hS ls hl
        refine lv_iload_n hx hb dX1_timeDrawn_21 rfl (lv_at hl 2 rfl) ?_
        refine lv_bipush (v := 10) hx hb dX1_timeDrawn_22 (by decide) ?_
        refine lv_icmp_ge (tgt := 59) hx hb dX1_timeDrawn_24 (by decide) (fun c24 => ?_) (fun c24 => ?_)
        · have n24 : 10 ≤ j21 := (fx_leN (x := (10 : Int32)) (y := (nI j21)) (a := 10) (b := j21) rfl rfl (by omega) (by omega)).mp c24
          refine lv_sipush (v := 601) hx hb dX1_timeDrawn_59 (by decide) ?_
          have hr21 : (X1_timeDrawn_L21 v_often v_times 11 0 (p_drawn - p_drawn / v_together * v_together)) = (601 : Int32) := hF21.symm.trans (by simp only [X1_timeDrawn_L21, if_pos c5, if_pos c24])
          exact hret _ _ _ _ _ _ dX1_timeDrawn_62 (by rw [hM0, hr21]) rfl hP hD hS
        · have n24 : ¬ (10 ≤ j21) := fun h9 => c24 ((fx_leN (x := (10 : Int32)) (y := (nI j21)) (a := 10) (b := j21) rfl rfl (by omega) (by omega)).mpr h9)
          refine lv_iload_n hx hb dX1_timeDrawn_27 rfl (lv_at hl 1 rfl) ?_
          refine lv_aload_n hx hb dX1_timeDrawn_28 rfl (lv_at hl 0 rfl) ?_
          refine va_get (D := D) (ci := 1) (v := .ref a_often) (C := RX1) (T := TX1) (N := 3) hx hb hts iX1 hown hK hP 0 rfl rfl 0 (by decide) f9 (fun _ h9 => h9) rfl dX1_timeDrawn_29 ?_
          refine lv_iload_n hx hb dX1_timeDrawn_32 rfl (lv_at hl 2 rfl) ?_
          refine fx_iald hx hb hK hP 1 0 rfl rfl j21 rfl (by omega) (by decide) dX1_timeDrawn_33 ?_
          refine lv_icmp_ge (tgt := 44) hx hb dX1_timeDrawn_34 (by decide) (fun c34 => ?_) (fun c34 => ?_)
          · refine lv_iload_n hx hb dX1_timeDrawn_44 rfl (lv_at hl 1 rfl) ?_
            refine lv_aload_n hx hb dX1_timeDrawn_45 rfl (lv_at hl 0 rfl) ?_
            refine va_get (D := D) (ci := 1) (v := .ref a_often) (C := RX1) (T := TX1) (N := 3) hx hb hts iX1 hown hK hP 0 rfl rfl 0 (by decide) f9 (fun _ h9 => h9) rfl dX1_timeDrawn_46 ?_
            refine lv_iload_n hx hb dX1_timeDrawn_49 rfl (lv_at hl 2 rfl) ?_
            refine fx_iald hx hb hK hP 1 0 rfl rfl j21 rfl (by omega) (by decide) dX1_timeDrawn_50 ?_
            refine lv_isub hx hb dX1_timeDrawn_51 ?_
            refine lv_istore_n (lv' := [(2, .int (x21_l2 - (v_often j21))), (0, .ref a_this), (3, .int (nI j21))]) hx hb dX1_timeDrawn_52 rfl hl (by decide) rfl (fun ls hl => ?_)
            refine lv_iinc (v := nI (j21 + 1)) (lv' := [(3, .int (nI (j21 + 1))), (2, .int (x21_l2 - (v_often j21))), (0, .ref a_this)]) hx hb dX1_timeDrawn_53 hl (k := 2) rfl (fx_inc _ 1) (by decide) rfl (fun ls hl => ?_)
            refine lv_goto (tgt := 21) hx hb dX1_timeDrawn_56 (by decide) ?_
            exact ih21 (j21 + 1) (x21_l2 - (v_often j21)) (by omega) (by omega) (by rw [← hF21]; simp only [X1_timeDrawn_L21, if_pos c5, if_neg c24, if_pos c34]) _ _ hP hD hS ls (lv_sub hl [2, 1, 0] rfl)
          · refine lv_aload_n hx hb dX1_timeDrawn_37 rfl (lv_at hl 0 rfl) ?_
            refine va_get (D := D) (ci := 1) (v := .ref a_times) (C := RX1) (T := TX1) (N := 3) hx hb hts iX1 hown hK hP 0 rfl rfl 1 (by decide) f15 (fun _ h9 => h9) rfl dX1_timeDrawn_38 ?_
            refine lv_iload_n hx hb dX1_timeDrawn_41 rfl (lv_at hl 2 rfl) ?_
            refine fx_iald hx hb hK hP 2 0 rfl rfl j21 rfl (by omega) (by decide) dX1_timeDrawn_42 ?_
            have hr21 : (X1_timeDrawn_L21 v_often v_times 11 0 (p_drawn - p_drawn / v_together * v_together)) = (v_times j21) := hF21.symm.trans (by simp only [X1_timeDrawn_L21, if_pos c5, if_neg c24, if_neg c34])
            exact hret _ _ _ _ _ _ dX1_timeDrawn_43 (by rw [hM0, hr21]) rfl hP hD hS
    exact L21 11 0 (p_drawn - p_drawn / v_together * v_together) (by omega) (by omega) rfl _ _ hP hD hS ls (lv_sub hl [2, 1, 0] rfl)
  · refine lv_sipush (v := 601) hx hb dX1_timeDrawn_8 (by decide) ?_
    exact hret _ _ _ _ _ _ dX1_timeDrawn_11 (by simp only [X1_timeDrawn, if_neg c5]) rfl hP hD hS

def X5_add_o_number (v_number : Int32) : Int32 := (if v_number < (20 : Int32) then (v_number + (1 : Int32)) else v_number)
def X5_add_o_kept (v_number : Int32) (v_kept : Nat → Int32) (p_kept : Int32) : Nat → Int32 := (if v_number < (20 : Int32) then (upd v_kept v_number.toNatClampNeg p_kept) else v_kept)
def X5_add_o_ended (v_number : Int32) (v_ended : Nat → Int32) (p_end : Int32) : Nat → Int32 := (if v_number < (20 : Int32) then (upd v_ended v_number.toNatClampNeg p_end) else v_ended)
abbrev rX5_add : Room := { frames := 0, cells := 0, slots := 0, locals := 0 }
theorem n_X5_add_X5 : ∀ w ∈ wsX50, w ∈ wsX5_add := by decide +kernel
set_option maxHeartbeats 8000000 in
set_option maxRecDepth 100000 in
theorem k_X5_add (l : Launch) (G : fxE) (hG : fxGood G) (D : va_G) (cI cJ cZ cH : ClassId) (a_kept a_ended a_this : Nat) (v_number : Int32) (v_kept : Nat → Int32) (v_ended : Nat → Int32) (p_kept : Int32) (p_end : Int32) (h0 : 0 ≤ v_number) : MetV l yX5_add wsX5_add rX5_add G D (tyL cI cJ cZ cH) [.ref a_this, .int p_kept, .int p_end] [(a_this, .inr (5, [.ref a_kept, .ref a_ended, .int v_number])), (a_kept, .inl (cI, 20, .inl v_kept)), (a_ended, .inl (cI, 20, .inl v_ended))] [(a_this, .inr (5, [.ref a_kept, .ref a_ended, .int (X5_add_o_number v_number)])), (a_kept, .inl (cI, 20, .inl (X5_add_o_kept v_number v_kept p_kept))), (a_ended, .inl (cI, 20, .inl (X5_add_o_ended v_number v_ended p_end)))] := by
  refine fx_startV (cc := cX5_add) (n := 3) (plainFor_of_name (by decide)) rfl (Nat.le_of_ble_eq_true rfl) ?_
  intro p e s m args below meth c A Q ls hx hb hml hown hts hA hGs hK hP hD hS hl hret
  have hl : lv_has ls 3 [(0, .ref a_this), (1, .int p_kept), (2, .int p_end)] := hl
  have iX5 := n_X5_add_X5
  have f18 := hts (.fieldLink RX5 18 "FrozeFirst$Tries" "number" "I") (by decide +kernel)
  have f9 := hts (.fieldLink RX5 9 "FrozeFirst$Tries" "kept" "[I") (by decide +kernel)
  have f15 := hts (.fieldLink RX5 15 "FrozeFirst$Tries" "ended" "[I") (by decide +kernel)
  refine lv_aload_n hx hb dX5_add_0 rfl (lv_at hl 0 rfl) ?_
  refine va_get (D := D) (ci := 5) (v := .int v_number) (C := RX5) (T := TX5) (N := 3) hx hb hts iX5 hown hK hP 0 rfl rfl 2 (by decide) f18 (fun _ h9 => h9) rfl dX5_add_1 ?_
  refine lv_bipush (v := 20) hx hb dX5_add_4 (by decide) ?_
  refine lv_icmp_lt (tgt := 10) hx hb dX5_add_6 (by decide) (fun c6 => ?_) (fun c6 => ?_)
  · refine lv_aload_n hx hb dX5_add_10 rfl (lv_at hl 0 rfl) ?_
    refine va_get (D := D) (ci := 5) (v := .ref a_kept) (C := RX5) (T := TX5) (N := 3) hx hb hts iX5 hown hK hP 0 rfl rfl 0 (by decide) f9 (fun _ h9 => h9) rfl dX5_add_11 ?_
    refine lv_aload_n hx hb dX5_add_14 rfl (lv_at hl 0 rfl) ?_
    refine va_get (D := D) (ci := 5) (v := .int v_number) (C := RX5) (T := TX5) (N := 3) hx hb hts iX5 hown hK hP 0 rfl rfl 2 (by decide) f18 (fun _ h9 => h9) rfl dX5_add_15 ?_
    refine lv_iload_n hx hb dX5_add_18 rfl (lv_at hl 1 rfl) ?_
    refine va_iast hx hb hK hP hD hS 1 0 rfl rfl (fx_vlt (N := 20) rfl h0 c6) dX5_add_19 (fun H locs hP hD hS => ?_)
    have hP : va_P D vwCl [(a_this, .inr (5, [.ref a_kept, .ref a_ended, .int v_number])), (a_kept, .inl (cI, 20, .inl (upd v_kept v_number.toNatClampNeg p_kept))), (a_ended, .inl (cI, 20, .inl v_ended))] H := hP
    have hD : va_D A [(a_this, .inr (5, [.ref a_kept, .ref a_ended, .int v_number])), (a_kept, .inl (cI, 20, .inl (upd v_kept v_number.toNatClampNeg p_kept))), (a_ended, .inl (cI, 20, .inl v_ended))] := hD
    refine lv_aload_n hx hb dX5_add_20 rfl (lv_at hl 0 rfl) ?_
    refine va_get (D := D) (ci := 5) (v := .ref a_ended) (C := RX5) (T := TX5) (N := 3) hx hb hts iX5 hown hK hP 0 rfl rfl 1 (by decide) f15 (fun _ h9 => h9) rfl dX5_add_21 ?_
    refine lv_aload_n hx hb dX5_add_24 rfl (lv_at hl 0 rfl) ?_
    refine va_get (D := D) (ci := 5) (v := .int v_number) (C := RX5) (T := TX5) (N := 3) hx hb hts iX5 hown hK hP 0 rfl rfl 2 (by decide) f18 (fun _ h9 => h9) rfl dX5_add_25 ?_
    refine lv_iload_n hx hb dX5_add_28 rfl (lv_at hl 2 rfl) ?_
    refine va_iast hx hb hK hP hD hS 2 0 rfl rfl (fx_vlt (N := 20) rfl h0 c6) dX5_add_29 (fun H locs hP hD hS => ?_)
    have hP : va_P D vwCl [(a_this, .inr (5, [.ref a_kept, .ref a_ended, .int v_number])), (a_kept, .inl (cI, 20, .inl (upd v_kept v_number.toNatClampNeg p_kept))), (a_ended, .inl (cI, 20, .inl (upd v_ended v_number.toNatClampNeg p_end)))] H := hP
    have hD : va_D A [(a_this, .inr (5, [.ref a_kept, .ref a_ended, .int v_number])), (a_kept, .inl (cI, 20, .inl (upd v_kept v_number.toNatClampNeg p_kept))), (a_ended, .inl (cI, 20, .inl (upd v_ended v_number.toNatClampNeg p_end)))] := hD
    refine lv_aload_n hx hb dX5_add_30 rfl (lv_at hl 0 rfl) ?_
    refine lv_dup hx hb dX5_add_31 rfl ?_
    refine va_get (D := D) (ci := 5) (v := .int v_number) (C := RX5) (T := TX5) (N := 3) hx hb hts iX5 hown hK hP 0 rfl rfl 2 (by decide) f18 (fun _ h9 => h9) rfl dX5_add_32 ?_
    refine lv_iconst (v := 1) hx hb dX5_add_35 (by decide) ?_
    refine lv_iadd hx hb dX5_add_36 ?_
    refine va_put (D := D) (ci := 5) (v := .int (v_number + (1 : Int32))) (ty := .int) (C := RX5) (T := TX5) (N := 3) hx hb hts iX5 tyX5 tyX5_ok nmX5 hown hK hP hD hS 0 rfl rfl 2 (by decide) f18 (fun _ h9 => h9) rfl (tyX5_ok 2 (by decide)) rfl rfl (Nat.le_of_ble_eq_true rfl) dX5_add_37 (fun H locs hP hD hS => ?_)
    have hP : va_P D vwCl [(a_this, .inr (5, [.ref a_kept, .ref a_ended, .int (v_number + (1 : Int32))])), (a_kept, .inl (cI, 20, .inl (upd v_kept v_number.toNatClampNeg p_kept))), (a_ended, .inl (cI, 20, .inl (upd v_ended v_number.toNatClampNeg p_end)))] H := hP
    have hD : va_D A [(a_this, .inr (5, [.ref a_kept, .ref a_ended, .int (v_number + (1 : Int32))])), (a_kept, .inl (cI, 20, .inl (upd v_kept v_number.toNatClampNeg p_kept))), (a_ended, .inl (cI, 20, .inl (upd v_ended v_number.toNatClampNeg p_end)))] := hD
    exact hret _ _ _ _ _ dX5_add_40 (by simp only [X5_add_o_number, X5_add_o_kept, X5_add_o_ended, if_pos c6]) hP hD hS
  · exact hret _ _ _ _ _ dX5_add_9 (by simp only [X5_add_o_number, X5_add_o_kept, X5_add_o_ended, if_neg c6]) hP hD hS

def X5_take_o_number (v_o_number : Int32) : Int32 := v_o_number
def X5_take_o_kept (v_kept : Nat → Int32) (v_o_kept : Nat → Int32) : Nat → Int32 := (va_cpy v_o_kept v_kept 0 0 20)
def X5_take_o_ended (v_ended : Nat → Int32) (v_o_ended : Nat → Int32) : Nat → Int32 := (va_cpy v_o_ended v_ended 0 0 20)
abbrev rX5_take : Room := { frames := 1, cells := 0, slots := 0, locals := 60 }
theorem n_X5_take_X5 : ∀ w ∈ wsX50, w ∈ wsX5_take := by decide +kernel
set_option maxHeartbeats 8000000 in
set_option maxRecDepth 100000 in
theorem k_X5_take (l : Launch) (G : fxE) (hG : fxGood G) (D : va_G) (cI cJ cZ cH : ClassId) (a_kept a_ended a_this a_o_kept a_o_ended a_o : Nat) (v_number : Int32) (v_kept : Nat → Int32) (v_ended : Nat → Int32) (v_o_number : Int32) (v_o_kept : Nat → Int32) (v_o_ended : Nat → Int32) : MetV l yX5_take wsX5_take rX5_take G D (tyL cI cJ cZ cH) [.ref a_this, .ref a_o] [(a_this, .inr (5, [.ref a_kept, .ref a_ended, .int v_number])), (a_kept, .inl (cI, 20, .inl v_kept)), (a_ended, .inl (cI, 20, .inl v_ended)), (a_o, .inr (5, [.ref a_o_kept, .ref a_o_ended, .int v_o_number])), (a_o_kept, .inl (cI, 20, .inl v_o_kept)), (a_o_ended, .inl (cI, 20, .inl v_o_ended))] [(a_this, .inr (5, [.ref a_kept, .ref a_ended, .int (X5_take_o_number v_o_number)])), (a_kept, .inl (cI, 20, .inl (X5_take_o_kept v_kept v_o_kept))), (a_ended, .inl (cI, 20, .inl (X5_take_o_ended v_ended v_o_ended))), (a_o, .inr (5, [.ref a_o_kept, .ref a_o_ended, .int v_o_number])), (a_o_kept, .inl (cI, 20, .inl v_o_kept)), (a_o_ended, .inl (cI, 20, .inl v_o_ended))] := by
  refine fx_startV (cc := cX5_take) (n := 2) (plainFor_of_name (by decide)) rfl (Nat.le_of_ble_eq_true rfl) ?_
  intro p e s m args below meth c A Q ls hx hb hml hown hts hA hGs hK hP hD hS hl hret
  have hl : lv_has ls 2 [(0, .ref a_this), (1, .ref a_o)] := hl
  have iX5 := n_X5_take_X5
  have f9 := hts (.fieldLink RX5 9 "FrozeFirst$Tries" "kept" "[I") (by decide +kernel)
  have m22 := hts (.methodLink RX5 22 arraycopyName) (by decide +kernel)
  have mn := hts (.native arraycopyName) (by decide +kernel)
  have mst := hts (.static arraycopyName) (by decide +kernel)
  have msy := hts (.initialized "java/lang/System") (by decide +kernel)
  have f15 := hts (.fieldLink RX5 15 "FrozeFirst$Tries" "ended" "[I") (by decide +kernel)
  have f18 := hts (.fieldLink RX5 18 "FrozeFirst$Tries" "number" "I") (by decide +kernel)
  refine lv_aload_n hx hb dX5_take_0 rfl (lv_at hl 1 rfl) ?_
  refine va_get (D := D) (ci := 5) (v := .ref a_o_kept) (C := RX5) (T := TX5) (N := 3) hx hb hts iX5 hown hK hP 3 rfl rfl 0 (by decide) f9 (fun _ h9 => h9) rfl dX5_take_1 ?_
  refine lv_iconst (v := 0) hx hb dX5_take_4 (by decide) ?_
  refine lv_aload_n hx hb dX5_take_5 rfl (lv_at hl 0 rfl) ?_
  refine va_get (D := D) (ci := 5) (v := .ref a_kept) (C := RX5) (T := TX5) (N := 3) hx hb hts iX5 hown hK hP 0 rfl rfl 0 (by decide) f9 (fun _ h9 => h9) rfl dX5_take_6 ?_
  refine lv_iconst (v := 0) hx hb dX5_take_9 (by decide) ?_
  refine lv_bipush (v := 20) hx hb dX5_take_10 (by decide) ?_
  refine va_copyi hx hb (by rw [hml]; exact hl.1.symm) hown m22 mn mst msy hK hP hD hS 4 1 0 0 rfl rfl rfl rfl rfl (by decide) (by decide) (by decide) (by decide) (by decide) (fun _ _ => rfl) (by decide) (Nat.le_of_ble_eq_true rfl) dX5_take_12 (fun H locs hP hD hS => ?_)
  have hP : va_P D vwCl [(a_this, .inr (5, [.ref a_kept, .ref a_ended, .int v_number])), (a_kept, .inl (cI, 20, .inl (va_cpy v_o_kept v_kept 0 0 20))), (a_ended, .inl (cI, 20, .inl v_ended)), (a_o, .inr (5, [.ref a_o_kept, .ref a_o_ended, .int v_o_number])), (a_o_kept, .inl (cI, 20, .inl v_o_kept)), (a_o_ended, .inl (cI, 20, .inl v_o_ended))] H := hP
  have hD : va_D A [(a_this, .inr (5, [.ref a_kept, .ref a_ended, .int v_number])), (a_kept, .inl (cI, 20, .inl (va_cpy v_o_kept v_kept 0 0 20))), (a_ended, .inl (cI, 20, .inl v_ended)), (a_o, .inr (5, [.ref a_o_kept, .ref a_o_ended, .int v_o_number])), (a_o_kept, .inl (cI, 20, .inl v_o_kept)), (a_o_ended, .inl (cI, 20, .inl v_o_ended))] := hD
  refine lv_aload_n hx hb dX5_take_15 rfl (lv_at hl 1 rfl) ?_
  refine va_get (D := D) (ci := 5) (v := .ref a_o_ended) (C := RX5) (T := TX5) (N := 3) hx hb hts iX5 hown hK hP 3 rfl rfl 1 (by decide) f15 (fun _ h9 => h9) rfl dX5_take_16 ?_
  refine lv_iconst (v := 0) hx hb dX5_take_19 (by decide) ?_
  refine lv_aload_n hx hb dX5_take_20 rfl (lv_at hl 0 rfl) ?_
  refine va_get (D := D) (ci := 5) (v := .ref a_ended) (C := RX5) (T := TX5) (N := 3) hx hb hts iX5 hown hK hP 0 rfl rfl 1 (by decide) f15 (fun _ h9 => h9) rfl dX5_take_21 ?_
  refine lv_iconst (v := 0) hx hb dX5_take_24 (by decide) ?_
  refine lv_bipush (v := 20) hx hb dX5_take_25 (by decide) ?_
  refine va_copyi hx hb (by rw [hml]; exact hl.1.symm) hown m22 mn mst msy hK hP hD hS 5 2 0 0 rfl rfl rfl rfl rfl (by decide) (by decide) (by decide) (by decide) (by decide) (fun _ _ => rfl) (by decide) (Nat.le_of_ble_eq_true rfl) dX5_take_27 (fun H locs hP hD hS => ?_)
  have hP : va_P D vwCl [(a_this, .inr (5, [.ref a_kept, .ref a_ended, .int v_number])), (a_kept, .inl (cI, 20, .inl (va_cpy v_o_kept v_kept 0 0 20))), (a_ended, .inl (cI, 20, .inl (va_cpy v_o_ended v_ended 0 0 20))), (a_o, .inr (5, [.ref a_o_kept, .ref a_o_ended, .int v_o_number])), (a_o_kept, .inl (cI, 20, .inl v_o_kept)), (a_o_ended, .inl (cI, 20, .inl v_o_ended))] H := hP
  have hD : va_D A [(a_this, .inr (5, [.ref a_kept, .ref a_ended, .int v_number])), (a_kept, .inl (cI, 20, .inl (va_cpy v_o_kept v_kept 0 0 20))), (a_ended, .inl (cI, 20, .inl (va_cpy v_o_ended v_ended 0 0 20))), (a_o, .inr (5, [.ref a_o_kept, .ref a_o_ended, .int v_o_number])), (a_o_kept, .inl (cI, 20, .inl v_o_kept)), (a_o_ended, .inl (cI, 20, .inl v_o_ended))] := hD
  refine lv_aload_n hx hb dX5_take_30 rfl (lv_at hl 0 rfl) ?_
  refine lv_aload_n hx hb dX5_take_31 rfl (lv_at hl 1 rfl) ?_
  refine va_get (D := D) (ci := 5) (v := .int v_o_number) (C := RX5) (T := TX5) (N := 3) hx hb hts iX5 hown hK hP 3 rfl rfl 2 (by decide) f18 (fun _ h9 => h9) rfl dX5_take_32 ?_
  refine va_put (D := D) (ci := 5) (v := .int v_o_number) (ty := .int) (C := RX5) (T := TX5) (N := 3) hx hb hts iX5 tyX5 tyX5_ok nmX5 hown hK hP hD hS 0 rfl rfl 2 (by decide) f18 (fun _ h9 => h9) rfl (tyX5_ok 2 (by decide)) rfl rfl (Nat.le_of_ble_eq_true rfl) dX5_take_35 (fun H locs hP hD hS => ?_)
  have hP : va_P D vwCl [(a_this, .inr (5, [.ref a_kept, .ref a_ended, .int v_o_number])), (a_kept, .inl (cI, 20, .inl (va_cpy v_o_kept v_kept 0 0 20))), (a_ended, .inl (cI, 20, .inl (va_cpy v_o_ended v_ended 0 0 20))), (a_o, .inr (5, [.ref a_o_kept, .ref a_o_ended, .int v_o_number])), (a_o_kept, .inl (cI, 20, .inl v_o_kept)), (a_o_ended, .inl (cI, 20, .inl v_o_ended))] H := hP
  have hD : va_D A [(a_this, .inr (5, [.ref a_kept, .ref a_ended, .int v_o_number])), (a_kept, .inl (cI, 20, .inl (va_cpy v_o_kept v_kept 0 0 20))), (a_ended, .inl (cI, 20, .inl (va_cpy v_o_ended v_ended 0 0 20))), (a_o, .inr (5, [.ref a_o_kept, .ref a_o_ended, .int v_o_number])), (a_o_kept, .inl (cI, 20, .inl v_o_kept)), (a_o_ended, .inl (cI, 20, .inl v_o_ended))] := hD
  exact hret _ _ _ _ _ dX5_take_38 (by simp only [X5_take_o_number, X5_take_o_kept, X5_take_o_ended]) hP hD hS

def X5_has_L2 (v_number : Int32) (v_kept : Nat → Int32) (p_k : Int32) : Nat → Nat → (Int32)
  | 0, j2 => (0 : Int32)
  | n + 1, j2 => (if v_number ≤ nI j2 then (0 : Int32) else (if (20 : Int32) ≤ nI j2 then (0 : Int32) else (if (v_kept j2) = p_k then (1 : Int32) else (X5_has_L2 v_number v_kept p_k n (j2 + 1)))))
def X5_has (v_number : Int32) (v_kept : Nat → Int32) (p_k : Int32) : Int32 := (X5_has_L2 v_number v_kept p_k 22 0)
abbrev rX5_has : Room := { frames := 0, cells := 0, slots := 0, locals := 0 }
theorem bl_X5_has (v_number : Int32) (v_kept : Nat → Int32) (p_k : Int32) : ∀ (n : Nat) (j2 : Nat), fx_b (X5_has_L2 v_number v_kept p_k n j2) := by
  intro n
  induction n with
  | zero => intros; exact Or.inl rfl
  | succ n ih =>
    intros
    unfold X5_has_L2
    repeat' split
    all_goals first | exact Or.inl rfl | exact Or.inr rfl | exact ih _
theorem b_X5_has (v_number : Int32) (v_kept : Nat → Int32) (p_k : Int32) : fx_b (X5_has v_number v_kept p_k) := by
  unfold X5_has
  try unfold X5_has
  repeat' split
  all_goals first | exact Or.inl rfl | exact Or.inr rfl | apply bl_X5_has
theorem n_X5_has_X5 : ∀ w ∈ wsX50, w ∈ wsX5_has := by decide +kernel
set_option maxHeartbeats 8000000 in
set_option maxRecDepth 100000 in
theorem k_X5_has (l : Launch) (G : fxE) (hG : fxGood G) (D : va_G) (cI cJ cZ cH : ClassId) (a_kept a_ended a_this : Nat) (v_number : Int32) (v_kept : Nat → Int32) (v_ended : Nat → Int32) (p_k : Int32) (h0 : 0 ≤ v_number) (h1 : v_number ≤ 20) : MetI l yX5_has wsX5_has rX5_has G D (tyL cI cJ cZ cH) [.ref a_this, .int p_k] [(a_this, .inr (5, [.ref a_kept, .ref a_ended, .int v_number])), (a_kept, .inl (cI, 20, .inl v_kept)), (a_ended, .inl (cI, 20, .inl v_ended))] (X5_has v_number v_kept p_k) [(a_this, .inr (5, [.ref a_kept, .ref a_ended, .int v_number])), (a_kept, .inl (cI, 20, .inl v_kept)), (a_ended, .inl (cI, 20, .inl v_ended))] := by
  refine fx_startI (cc := cX5_has) (n := 3) (rt := .boolean) (plainFor_of_name (by decide)) rfl (Nat.le_of_ble_eq_true rfl) (fx_nb (b_X5_has v_number v_kept p_k)) ?_
  intro p e s m args below meth c A Q ls hx hb hml hown hts hA hGs hK hP hD hS hl hret
  have hl : lv_has ls 3 [(0, .ref a_this), (1, .int p_k)] := hl
  have iX5 := n_X5_has_X5
  have f18 := hts (.fieldLink RX5 18 "FrozeFirst$Tries" "number" "I") (by decide +kernel)
  have f9 := hts (.fieldLink RX5 9 "FrozeFirst$Tries" "kept" "[I") (by decide +kernel)
  have e_number := fx_tn h0
  have b_number := fx_tb (N := 20) (n := 20) rfl (by decide) h0 h1
  refine lv_iconst (v := 0) hx hb dX5_has_0 (by decide) ?_
  refine lv_istore_n (lv' := [(2, .int (0 : Int32)), (0, .ref a_this), (1, .int p_k)]) hx hb dX5_has_1 rfl hl (by decide) rfl (fun ls hl => ?_)
  have hM0 : (X5_has v_number v_kept p_k) = (X5_has_L2 v_number v_kept p_k 22 0) := by simp only [X5_has]
  have L2 : ∀ (n : Nat) (j2 : Nat), 21 - j2 < n → j2 ≤ v_number.toNatClampNeg → X5_has_L2 v_number v_kept p_k n j2 = (X5_has_L2 v_number v_kept p_k 22 0) → ∀ (H : Heap) (locs : List Loc), va_P D vwCl [(a_this, .inr (5, [.ref a_kept, .ref a_ended, .int v_number])), (a_kept, .inl (cI, 20, .inl v_kept)), (a_ended, .inl (cI, 20, .inl v_ended))] H → va_D A [(a_this, .inr (5, [.ref a_kept, .ref a_ended, .int v_number])), (a_kept, .inl (cI, 20, .inl v_kept)), (a_ended, .inl (cI, 20, .inl v_ended))] → va_S A s.heap H locs → ∀ (ls : Array Slot), lv_has ls 3 [(0, .ref a_this), (1, .int p_k), (2, .int (nI j2))] → W p l e rX5_has s m args below meth c H locs 0 0 Q (F0 m 2 ls []) := by
    intro n
    induction n with
    | zero => intro j2 h1; exact absurd h1 (Nat.not_lt_zero _)
    | succ n ih2 =>
      intro j2 hm2 hj2 hF2 H locs hP hD hS ls hl
      refine lv_iload_n hx hb dX5_has_2 rfl (lv_at hl 2 rfl) ?_
      refine lv_aload_n hx hb dX5_has_3 rfl (lv_at hl 0 rfl) ?_
      refine va_get (D := D) (ci := 5) (v := .int v_number) (C := RX5) (T := TX5) (N := 3) hx hb hts iX5 hown hK hP 0 rfl rfl 2 (by decide) f18 (fun _ h9 => h9) rfl dX5_has_4 ?_
      refine lv_icmp_ge (tgt := 34) hx hb dX5_has_7 (by decide) (fun c7 => ?_) (fun c7 => ?_)
      · have n7 : v_number.toNatClampNeg ≤ j2 := (fx_leN (x := v_number) (y := (nI j2)) (a := v_number.toNatClampNeg) (b := j2) e_number rfl (by omega) (by omega)).mp c7
        refine lv_iconst (v := 0) hx hb dX5_has_34 (by decide) ?_
        have hr2 : (X5_has_L2 v_number v_kept p_k 22 0) = (0 : Int32) := hF2.symm.trans (by simp only [X5_has_L2, if_pos c7])
        exact hret _ _ _ _ _ _ dX5_has_35 (by rw [hM0, hr2]) rfl hP hD hS
      · have n7 : ¬ (v_number.toNatClampNeg ≤ j2) := fun h9 => c7 ((fx_leN (x := v_number) (y := (nI j2)) (a := v_number.toNatClampNeg) (b := j2) e_number rfl (by omega) (by omega)).mpr h9)
        refine lv_iload_n hx hb dX5_has_10 rfl (lv_at hl 2 rfl) ?_
        refine lv_bipush (v := 20) hx hb dX5_has_11 (by decide) ?_
        refine lv_icmp_ge (tgt := 34) hx hb dX5_has_13 (by decide) (fun c13 => ?_) (fun c13 => ?_)
        · have n13 : 20 ≤ j2 := (fx_leN (x := (20 : Int32)) (y := (nI j2)) (a := 20) (b := j2) rfl rfl (by omega) (by omega)).mp c13
          refine lv_iconst (v := 0) hx hb dX5_has_34 (by decide) ?_
          have hr2 : (X5_has_L2 v_number v_kept p_k 22 0) = (0 : Int32) := hF2.symm.trans (by simp only [X5_has_L2, if_neg c7, if_pos c13])
          exact hret _ _ _ _ _ _ dX5_has_35 (by rw [hM0, hr2]) rfl hP hD hS
        · have n13 : ¬ (20 ≤ j2) := fun h9 => c13 ((fx_leN (x := (20 : Int32)) (y := (nI j2)) (a := 20) (b := j2) rfl rfl (by omega) (by omega)).mpr h9)
          refine lv_aload_n hx hb dX5_has_16 rfl (lv_at hl 0 rfl) ?_
          refine va_get (D := D) (ci := 5) (v := .ref a_kept) (C := RX5) (T := TX5) (N := 3) hx hb hts iX5 hown hK hP 0 rfl rfl 0 (by decide) f9 (fun _ h9 => h9) rfl dX5_has_17 ?_
          refine lv_iload_n hx hb dX5_has_20 rfl (lv_at hl 2 rfl) ?_
          refine fx_iald hx hb hK hP 1 0 rfl rfl j2 rfl (by omega) (by decide) dX5_has_21 ?_
          refine lv_iload_n hx hb dX5_has_22 rfl (lv_at hl 1 rfl) ?_
          refine lv_icmp_ne (tgt := 28) hx hb dX5_has_23 (by decide) (fun c23 => ?_) (fun c23 => ?_)
          · refine lv_iinc (v := nI (j2 + 1)) (lv' := [(2, .int (nI (j2 + 1))), (0, .ref a_this), (1, .int p_k)]) hx hb dX5_has_28 hl (k := 2) rfl (fx_inc _ 1) (by decide) rfl (fun ls hl => ?_)
            refine lv_goto (tgt := 2) hx hb dX5_has_31 (by decide) ?_
            exact ih2 (j2 + 1) (by omega) (by omega) (by rw [← hF2]; simp only [X5_has_L2, if_neg c7, if_neg c13, if_neg c23]) _ _ hP hD hS ls (lv_sub hl [1, 2, 0] rfl)
          · refine lv_iconst (v := 1) hx hb dX5_has_26 (by decide) ?_
            have hr2 : (X5_has_L2 v_number v_kept p_k 22 0) = (1 : Int32) := hF2.symm.trans (by simp only [X5_has_L2, if_neg c7, if_neg c13, if_pos c23])
            exact hret _ _ _ _ _ _ dX5_has_27 (by rw [hM0, hr2]) rfl hP hD hS
  exact L2 22 0 (by omega) (Nat.zero_le _) rfl _ _ hP hD hS ls (lv_sub hl [1, 2, 0] rfl)

def J6_bitCount_0f7a4 (p_x : Int32) : Int32 := ((((((((p_x - ((p_x.toUInt32 >>> ((1 : Int32).toUInt32 &&& Int32.toUInt32 31)).toInt32 &&& (1431655765 : Int32))) &&& (858993459 : Int32)) + (((p_x - ((p_x.toUInt32 >>> ((1 : Int32).toUInt32 &&& Int32.toUInt32 31)).toInt32 &&& (1431655765 : Int32))).toUInt32 >>> ((2 : Int32).toUInt32 &&& Int32.toUInt32 31)).toInt32 &&& (858993459 : Int32))) + ((((p_x - ((p_x.toUInt32 >>> ((1 : Int32).toUInt32 &&& Int32.toUInt32 31)).toInt32 &&& (1431655765 : Int32))) &&& (858993459 : Int32)) + (((p_x - ((p_x.toUInt32 >>> ((1 : Int32).toUInt32 &&& Int32.toUInt32 31)).toInt32 &&& (1431655765 : Int32))).toUInt32 >>> ((2 : Int32).toUInt32 &&& Int32.toUInt32 31)).toInt32 &&& (858993459 : Int32))).toUInt32 >>> ((4 : Int32).toUInt32 &&& Int32.toUInt32 31)).toInt32) &&& (252645135 : Int32)) + ((((((p_x - ((p_x.toUInt32 >>> ((1 : Int32).toUInt32 &&& Int32.toUInt32 31)).toInt32 &&& (1431655765 : Int32))) &&& (858993459 : Int32)) + (((p_x - ((p_x.toUInt32 >>> ((1 : Int32).toUInt32 &&& Int32.toUInt32 31)).toInt32 &&& (1431655765 : Int32))).toUInt32 >>> ((2 : Int32).toUInt32 &&& Int32.toUInt32 31)).toInt32 &&& (858993459 : Int32))) + ((((p_x - ((p_x.toUInt32 >>> ((1 : Int32).toUInt32 &&& Int32.toUInt32 31)).toInt32 &&& (1431655765 : Int32))) &&& (858993459 : Int32)) + (((p_x - ((p_x.toUInt32 >>> ((1 : Int32).toUInt32 &&& Int32.toUInt32 31)).toInt32 &&& (1431655765 : Int32))).toUInt32 >>> ((2 : Int32).toUInt32 &&& Int32.toUInt32 31)).toInt32 &&& (858993459 : Int32))).toUInt32 >>> ((4 : Int32).toUInt32 &&& Int32.toUInt32 31)).toInt32) &&& (252645135 : Int32)).toUInt32 >>> ((8 : Int32).toUInt32 &&& Int32.toUInt32 31)).toInt32) + (((((((p_x - ((p_x.toUInt32 >>> ((1 : Int32).toUInt32 &&& Int32.toUInt32 31)).toInt32 &&& (1431655765 : Int32))) &&& (858993459 : Int32)) + (((p_x - ((p_x.toUInt32 >>> ((1 : Int32).toUInt32 &&& Int32.toUInt32 31)).toInt32 &&& (1431655765 : Int32))).toUInt32 >>> ((2 : Int32).toUInt32 &&& Int32.toUInt32 31)).toInt32 &&& (858993459 : Int32))) + ((((p_x - ((p_x.toUInt32 >>> ((1 : Int32).toUInt32 &&& Int32.toUInt32 31)).toInt32 &&& (1431655765 : Int32))) &&& (858993459 : Int32)) + (((p_x - ((p_x.toUInt32 >>> ((1 : Int32).toUInt32 &&& Int32.toUInt32 31)).toInt32 &&& (1431655765 : Int32))).toUInt32 >>> ((2 : Int32).toUInt32 &&& Int32.toUInt32 31)).toInt32 &&& (858993459 : Int32))).toUInt32 >>> ((4 : Int32).toUInt32 &&& Int32.toUInt32 31)).toInt32) &&& (252645135 : Int32)) + ((((((p_x - ((p_x.toUInt32 >>> ((1 : Int32).toUInt32 &&& Int32.toUInt32 31)).toInt32 &&& (1431655765 : Int32))) &&& (858993459 : Int32)) + (((p_x - ((p_x.toUInt32 >>> ((1 : Int32).toUInt32 &&& Int32.toUInt32 31)).toInt32 &&& (1431655765 : Int32))).toUInt32 >>> ((2 : Int32).toUInt32 &&& Int32.toUInt32 31)).toInt32 &&& (858993459 : Int32))) + ((((p_x - ((p_x.toUInt32 >>> ((1 : Int32).toUInt32 &&& Int32.toUInt32 31)).toInt32 &&& (1431655765 : Int32))) &&& (858993459 : Int32)) + (((p_x - ((p_x.toUInt32 >>> ((1 : Int32).toUInt32 &&& Int32.toUInt32 31)).toInt32 &&& (1431655765 : Int32))).toUInt32 >>> ((2 : Int32).toUInt32 &&& Int32.toUInt32 31)).toInt32 &&& (858993459 : Int32))).toUInt32 >>> ((4 : Int32).toUInt32 &&& Int32.toUInt32 31)).toInt32) &&& (252645135 : Int32)).toUInt32 >>> ((8 : Int32).toUInt32 &&& Int32.toUInt32 31)).toInt32).toUInt32 >>> ((16 : Int32).toUInt32 &&& Int32.toUInt32 31)).toInt32) &&& (63 : Int32))
abbrev rJ6_bitCount_0f7a4 : Room := { frames := 0, cells := 0, slots := 0, locals := 0 }
set_option maxHeartbeats 8000000 in
set_option maxRecDepth 100000 in
theorem k_J6_bitCount_0f7a4 (l : Launch) (G : fxE) (hG : fxGood G) (D : va_G) (cI cJ cZ cH : ClassId) (p_x : Int32) : MetI l yJ6_bitCount_0f7a4 wsJ6_bitCount_0f7a4 rJ6_bitCount_0f7a4 G D (tyL cI cJ cZ cH) [.int p_x] [] (J6_bitCount_0f7a4 p_x) [] := by
  refine fx_startI (cc := cJ6_bitCount_0f7a4) (n := 1) (rt := .int) (plainFor_of_name (by decide)) rfl (Nat.le_of_ble_eq_true rfl) rfl ?_
  intro p e s m args below meth c A Q ls hx hb hml hown hts hA hGs hK hP hD hS hl hret
  have hl : lv_has ls 1 [(0, .int p_x)] := hl
  have k265 := hts (.constant RJ6 265 1431655765) (by decide +kernel)
  have k266 := hts (.constant RJ6 266 858993459) (by decide +kernel)
  have k267 := hts (.constant RJ6 267 252645135) (by decide +kernel)
  refine lv_iload_n hx hb dJ6_bitCount_0f7a4_0 rfl (lv_at hl 0 rfl) ?_
  refine lv_iload_n hx hb dJ6_bitCount_0f7a4_1 rfl (lv_at hl 0 rfl) ?_
  refine lv_iconst (v := 1) hx hb dJ6_bitCount_0f7a4_2 (by decide) ?_
  refine lv_iushr hx hb dJ6_bitCount_0f7a4_3 rfl ?_
  refine lv_ldcw (v := 1431655765) hx hb hown k265 dJ6_bitCount_0f7a4_4 ?_
  refine lv_iand hx hb dJ6_bitCount_0f7a4_7 ?_
  refine lv_isub hx hb dJ6_bitCount_0f7a4_8 ?_
  refine lv_istore_n (lv' := [(0, .int (p_x - ((p_x.toUInt32 >>> ((1 : Int32).toUInt32 &&& Int32.toUInt32 31)).toInt32 &&& (1431655765 : Int32))))]) hx hb dJ6_bitCount_0f7a4_9 rfl hl (by decide) rfl (fun ls hl => ?_)
  refine lv_iload_n hx hb dJ6_bitCount_0f7a4_10 rfl (lv_at hl 0 rfl) ?_
  refine lv_ldcw (v := 858993459) hx hb hown k266 dJ6_bitCount_0f7a4_11 ?_
  refine lv_iand hx hb dJ6_bitCount_0f7a4_14 ?_
  refine lv_iload_n hx hb dJ6_bitCount_0f7a4_15 rfl (lv_at hl 0 rfl) ?_
  refine lv_iconst (v := 2) hx hb dJ6_bitCount_0f7a4_16 (by decide) ?_
  refine lv_iushr hx hb dJ6_bitCount_0f7a4_17 rfl ?_
  refine lv_ldcw (v := 858993459) hx hb hown k266 dJ6_bitCount_0f7a4_18 ?_
  refine lv_iand hx hb dJ6_bitCount_0f7a4_21 ?_
  refine lv_iadd hx hb dJ6_bitCount_0f7a4_22 ?_
  refine lv_istore_n (lv' := [(0, .int (((p_x - ((p_x.toUInt32 >>> ((1 : Int32).toUInt32 &&& Int32.toUInt32 31)).toInt32 &&& (1431655765 : Int32))) &&& (858993459 : Int32)) + (((p_x - ((p_x.toUInt32 >>> ((1 : Int32).toUInt32 &&& Int32.toUInt32 31)).toInt32 &&& (1431655765 : Int32))).toUInt32 >>> ((2 : Int32).toUInt32 &&& Int32.toUInt32 31)).toInt32 &&& (858993459 : Int32))))]) hx hb dJ6_bitCount_0f7a4_23 rfl hl (by decide) rfl (fun ls hl => ?_)
  refine lv_iload_n hx hb dJ6_bitCount_0f7a4_24 rfl (lv_at hl 0 rfl) ?_
  refine lv_iload_n hx hb dJ6_bitCount_0f7a4_25 rfl (lv_at hl 0 rfl) ?_
  refine lv_iconst (v := 4) hx hb dJ6_bitCount_0f7a4_26 (by decide) ?_
  refine lv_iushr hx hb dJ6_bitCount_0f7a4_27 rfl ?_
  refine lv_iadd hx hb dJ6_bitCount_0f7a4_28 ?_
  refine lv_ldcw (v := 252645135) hx hb hown k267 dJ6_bitCount_0f7a4_29 ?_
  refine lv_iand hx hb dJ6_bitCount_0f7a4_32 ?_
  refine lv_istore_n (lv' := [(0, .int (((((p_x - ((p_x.toUInt32 >>> ((1 : Int32).toUInt32 &&& Int32.toUInt32 31)).toInt32 &&& (1431655765 : Int32))) &&& (858993459 : Int32)) + (((p_x - ((p_x.toUInt32 >>> ((1 : Int32).toUInt32 &&& Int32.toUInt32 31)).toInt32 &&& (1431655765 : Int32))).toUInt32 >>> ((2 : Int32).toUInt32 &&& Int32.toUInt32 31)).toInt32 &&& (858993459 : Int32))) + ((((p_x - ((p_x.toUInt32 >>> ((1 : Int32).toUInt32 &&& Int32.toUInt32 31)).toInt32 &&& (1431655765 : Int32))) &&& (858993459 : Int32)) + (((p_x - ((p_x.toUInt32 >>> ((1 : Int32).toUInt32 &&& Int32.toUInt32 31)).toInt32 &&& (1431655765 : Int32))).toUInt32 >>> ((2 : Int32).toUInt32 &&& Int32.toUInt32 31)).toInt32 &&& (858993459 : Int32))).toUInt32 >>> ((4 : Int32).toUInt32 &&& Int32.toUInt32 31)).toInt32) &&& (252645135 : Int32)))]) hx hb dJ6_bitCount_0f7a4_33 rfl hl (by decide) rfl (fun ls hl => ?_)
  refine lv_iload_n hx hb dJ6_bitCount_0f7a4_34 rfl (lv_at hl 0 rfl) ?_
  refine lv_iload_n hx hb dJ6_bitCount_0f7a4_35 rfl (lv_at hl 0 rfl) ?_
  refine lv_bipush (v := 8) hx hb dJ6_bitCount_0f7a4_36 (by decide) ?_
  refine lv_iushr hx hb dJ6_bitCount_0f7a4_38 rfl ?_
  refine lv_iadd hx hb dJ6_bitCount_0f7a4_39 ?_
  refine lv_istore_n (lv' := [(0, .int ((((((p_x - ((p_x.toUInt32 >>> ((1 : Int32).toUInt32 &&& Int32.toUInt32 31)).toInt32 &&& (1431655765 : Int32))) &&& (858993459 : Int32)) + (((p_x - ((p_x.toUInt32 >>> ((1 : Int32).toUInt32 &&& Int32.toUInt32 31)).toInt32 &&& (1431655765 : Int32))).toUInt32 >>> ((2 : Int32).toUInt32 &&& Int32.toUInt32 31)).toInt32 &&& (858993459 : Int32))) + ((((p_x - ((p_x.toUInt32 >>> ((1 : Int32).toUInt32 &&& Int32.toUInt32 31)).toInt32 &&& (1431655765 : Int32))) &&& (858993459 : Int32)) + (((p_x - ((p_x.toUInt32 >>> ((1 : Int32).toUInt32 &&& Int32.toUInt32 31)).toInt32 &&& (1431655765 : Int32))).toUInt32 >>> ((2 : Int32).toUInt32 &&& Int32.toUInt32 31)).toInt32 &&& (858993459 : Int32))).toUInt32 >>> ((4 : Int32).toUInt32 &&& Int32.toUInt32 31)).toInt32) &&& (252645135 : Int32)) + ((((((p_x - ((p_x.toUInt32 >>> ((1 : Int32).toUInt32 &&& Int32.toUInt32 31)).toInt32 &&& (1431655765 : Int32))) &&& (858993459 : Int32)) + (((p_x - ((p_x.toUInt32 >>> ((1 : Int32).toUInt32 &&& Int32.toUInt32 31)).toInt32 &&& (1431655765 : Int32))).toUInt32 >>> ((2 : Int32).toUInt32 &&& Int32.toUInt32 31)).toInt32 &&& (858993459 : Int32))) + ((((p_x - ((p_x.toUInt32 >>> ((1 : Int32).toUInt32 &&& Int32.toUInt32 31)).toInt32 &&& (1431655765 : Int32))) &&& (858993459 : Int32)) + (((p_x - ((p_x.toUInt32 >>> ((1 : Int32).toUInt32 &&& Int32.toUInt32 31)).toInt32 &&& (1431655765 : Int32))).toUInt32 >>> ((2 : Int32).toUInt32 &&& Int32.toUInt32 31)).toInt32 &&& (858993459 : Int32))).toUInt32 >>> ((4 : Int32).toUInt32 &&& Int32.toUInt32 31)).toInt32) &&& (252645135 : Int32)).toUInt32 >>> ((8 : Int32).toUInt32 &&& Int32.toUInt32 31)).toInt32))]) hx hb dJ6_bitCount_0f7a4_40 rfl hl (by decide) rfl (fun ls hl => ?_)
  refine lv_iload_n hx hb dJ6_bitCount_0f7a4_41 rfl (lv_at hl 0 rfl) ?_
  refine lv_iload_n hx hb dJ6_bitCount_0f7a4_42 rfl (lv_at hl 0 rfl) ?_
  refine lv_bipush (v := 16) hx hb dJ6_bitCount_0f7a4_43 (by decide) ?_
  refine lv_iushr hx hb dJ6_bitCount_0f7a4_45 rfl ?_
  refine lv_iadd hx hb dJ6_bitCount_0f7a4_46 ?_
  refine lv_istore_n (lv' := [(0, .int (((((((p_x - ((p_x.toUInt32 >>> ((1 : Int32).toUInt32 &&& Int32.toUInt32 31)).toInt32 &&& (1431655765 : Int32))) &&& (858993459 : Int32)) + (((p_x - ((p_x.toUInt32 >>> ((1 : Int32).toUInt32 &&& Int32.toUInt32 31)).toInt32 &&& (1431655765 : Int32))).toUInt32 >>> ((2 : Int32).toUInt32 &&& Int32.toUInt32 31)).toInt32 &&& (858993459 : Int32))) + ((((p_x - ((p_x.toUInt32 >>> ((1 : Int32).toUInt32 &&& Int32.toUInt32 31)).toInt32 &&& (1431655765 : Int32))) &&& (858993459 : Int32)) + (((p_x - ((p_x.toUInt32 >>> ((1 : Int32).toUInt32 &&& Int32.toUInt32 31)).toInt32 &&& (1431655765 : Int32))).toUInt32 >>> ((2 : Int32).toUInt32 &&& Int32.toUInt32 31)).toInt32 &&& (858993459 : Int32))).toUInt32 >>> ((4 : Int32).toUInt32 &&& Int32.toUInt32 31)).toInt32) &&& (252645135 : Int32)) + ((((((p_x - ((p_x.toUInt32 >>> ((1 : Int32).toUInt32 &&& Int32.toUInt32 31)).toInt32 &&& (1431655765 : Int32))) &&& (858993459 : Int32)) + (((p_x - ((p_x.toUInt32 >>> ((1 : Int32).toUInt32 &&& Int32.toUInt32 31)).toInt32 &&& (1431655765 : Int32))).toUInt32 >>> ((2 : Int32).toUInt32 &&& Int32.toUInt32 31)).toInt32 &&& (858993459 : Int32))) + ((((p_x - ((p_x.toUInt32 >>> ((1 : Int32).toUInt32 &&& Int32.toUInt32 31)).toInt32 &&& (1431655765 : Int32))) &&& (858993459 : Int32)) + (((p_x - ((p_x.toUInt32 >>> ((1 : Int32).toUInt32 &&& Int32.toUInt32 31)).toInt32 &&& (1431655765 : Int32))).toUInt32 >>> ((2 : Int32).toUInt32 &&& Int32.toUInt32 31)).toInt32 &&& (858993459 : Int32))).toUInt32 >>> ((4 : Int32).toUInt32 &&& Int32.toUInt32 31)).toInt32) &&& (252645135 : Int32)).toUInt32 >>> ((8 : Int32).toUInt32 &&& Int32.toUInt32 31)).toInt32) + (((((((p_x - ((p_x.toUInt32 >>> ((1 : Int32).toUInt32 &&& Int32.toUInt32 31)).toInt32 &&& (1431655765 : Int32))) &&& (858993459 : Int32)) + (((p_x - ((p_x.toUInt32 >>> ((1 : Int32).toUInt32 &&& Int32.toUInt32 31)).toInt32 &&& (1431655765 : Int32))).toUInt32 >>> ((2 : Int32).toUInt32 &&& Int32.toUInt32 31)).toInt32 &&& (858993459 : Int32))) + ((((p_x - ((p_x.toUInt32 >>> ((1 : Int32).toUInt32 &&& Int32.toUInt32 31)).toInt32 &&& (1431655765 : Int32))) &&& (858993459 : Int32)) + (((p_x - ((p_x.toUInt32 >>> ((1 : Int32).toUInt32 &&& Int32.toUInt32 31)).toInt32 &&& (1431655765 : Int32))).toUInt32 >>> ((2 : Int32).toUInt32 &&& Int32.toUInt32 31)).toInt32 &&& (858993459 : Int32))).toUInt32 >>> ((4 : Int32).toUInt32 &&& Int32.toUInt32 31)).toInt32) &&& (252645135 : Int32)) + ((((((p_x - ((p_x.toUInt32 >>> ((1 : Int32).toUInt32 &&& Int32.toUInt32 31)).toInt32 &&& (1431655765 : Int32))) &&& (858993459 : Int32)) + (((p_x - ((p_x.toUInt32 >>> ((1 : Int32).toUInt32 &&& Int32.toUInt32 31)).toInt32 &&& (1431655765 : Int32))).toUInt32 >>> ((2 : Int32).toUInt32 &&& Int32.toUInt32 31)).toInt32 &&& (858993459 : Int32))) + ((((p_x - ((p_x.toUInt32 >>> ((1 : Int32).toUInt32 &&& Int32.toUInt32 31)).toInt32 &&& (1431655765 : Int32))) &&& (858993459 : Int32)) + (((p_x - ((p_x.toUInt32 >>> ((1 : Int32).toUInt32 &&& Int32.toUInt32 31)).toInt32 &&& (1431655765 : Int32))).toUInt32 >>> ((2 : Int32).toUInt32 &&& Int32.toUInt32 31)).toInt32 &&& (858993459 : Int32))).toUInt32 >>> ((4 : Int32).toUInt32 &&& Int32.toUInt32 31)).toInt32) &&& (252645135 : Int32)).toUInt32 >>> ((8 : Int32).toUInt32 &&& Int32.toUInt32 31)).toInt32).toUInt32 >>> ((16 : Int32).toUInt32 &&& Int32.toUInt32 31)).toInt32))]) hx hb dJ6_bitCount_0f7a4_47 rfl hl (by decide) rfl (fun ls hl => ?_)
  refine lv_iload_n hx hb dJ6_bitCount_0f7a4_48 rfl (lv_at hl 0 rfl) ?_
  refine lv_bipush (v := 63) hx hb dJ6_bitCount_0f7a4_49 (by decide) ?_
  refine lv_iand hx hb dJ6_bitCount_0f7a4_51 ?_
  exact hret _ _ _ _ _ _ dJ6_bitCount_0f7a4_52 (by simp only [J6_bitCount_0f7a4]) rfl hP hD hS

def X5_neighbours_L4 (v_kept : Nat → Int32) (p_k : Int32) : Nat → (Int32)
  | 0 => (0 : Int32)
  | j4 + 1 => (if (J6_bitCount_0f7a4 ((v_kept j4) ^^^ p_k)) = (1 : Int32) then ((X5_neighbours_L4 v_kept p_k j4) + 1) else (X5_neighbours_L4 v_kept p_k j4))
def X5_neighbours (v_number : Int32) (v_kept : Nat → Int32) (p_k : Int32) : Int32 := (X5_neighbours_L4 v_kept p_k v_number.toNatClampNeg)
abbrev rX5_neighbours : Room := { frames := 1, cells := 0, slots := 0, locals := 20 }
theorem n_X5_neighbours_X5 : ∀ w ∈ wsX50, w ∈ wsX5_neighbours := by decide +kernel
set_option maxHeartbeats 8000000 in
set_option maxRecDepth 100000 in
theorem k_X5_neighbours (l : Launch) (G : fxE) (hG : fxGood G) (D : va_G) (cI cJ cZ cH : ClassId) (a_kept a_ended a_this : Nat) (v_number : Int32) (v_kept : Nat → Int32) (v_ended : Nat → Int32) (p_k : Int32) (h0 : 0 ≤ v_number) (h1 : v_number ≤ 20) : MetI l yX5_neighbours wsX5_neighbours rX5_neighbours G D (tyL cI cJ cZ cH) [.ref a_this, .int p_k] [(a_this, .inr (5, [.ref a_kept, .ref a_ended, .int v_number])), (a_kept, .inl (cI, 20, .inl v_kept)), (a_ended, .inl (cI, 20, .inl v_ended))] (X5_neighbours v_number v_kept p_k) [(a_this, .inr (5, [.ref a_kept, .ref a_ended, .int v_number])), (a_kept, .inl (cI, 20, .inl v_kept)), (a_ended, .inl (cI, 20, .inl v_ended))] := by
  refine fx_startI (cc := cX5_neighbours) (n := 4) (rt := .int) (plainFor_of_name (by decide)) rfl (Nat.le_of_ble_eq_true rfl) rfl ?_
  intro p e s m args below meth c A Q ls hx hb hml hown hts hA hGs hK hP hD hS hl hret
  have hl : lv_has ls 4 [(0, .ref a_this), (1, .int p_k)] := hl
  have iX5 := n_X5_neighbours_X5
  have f18 := hts (.fieldLink RX5 18 "FrozeFirst$Tries" "number" "I") (by decide +kernel)
  have f9 := hts (.fieldLink RX5 9 "FrozeFirst$Tries" "kept" "[I") (by decide +kernel)
  have e_number := fx_tn h0
  have b_number := fx_tb (N := 20) (n := 20) rfl (by decide) h0 h1
  refine lv_iconst (v := 0) hx hb dX5_neighbours_0 (by decide) ?_
  refine lv_istore_n (lv' := [(2, .int (0 : Int32)), (0, .ref a_this), (1, .int p_k)]) hx hb dX5_neighbours_1 rfl hl (by decide) rfl (fun ls hl => ?_)
  refine lv_iconst (v := 0) hx hb dX5_neighbours_2 (by decide) ?_
  refine lv_istore_n (lv' := [(3, .int (0 : Int32)), (2, .int (0 : Int32)), (0, .ref a_this), (1, .int p_k)]) hx hb dX5_neighbours_3 rfl hl (by decide) rfl (fun ls hl => ?_)
  have L4 : ∀ (n j4 : Nat) (x4_l2 : Int32), j4 ≤ v_number.toNatClampNeg → v_number.toNatClampNeg + 1 ≤ j4 + n → X5_neighbours_L4 v_kept p_k j4 = x4_l2 → ∀ (H : Heap) (locs : List Loc), va_P D vwCl [(a_this, .inr (5, [.ref a_kept, .ref a_ended, .int v_number])), (a_kept, .inl (cI, 20, .inl v_kept)), (a_ended, .inl (cI, 20, .inl v_ended))] H → va_D A [(a_this, .inr (5, [.ref a_kept, .ref a_ended, .int v_number])), (a_kept, .inl (cI, 20, .inl v_kept)), (a_ended, .inl (cI, 20, .inl v_ended))] → va_S A s.heap H locs → ∀ (ls : Array Slot), lv_has ls 4 [(0, .ref a_this), (1, .int p_k), (2, .int x4_l2), (3, .int (nI j4))] → W p l e rX5_neighbours s m args below meth c H locs 0 0 Q (F0 m 4 ls []) := by
    intro n
    induction n with
    | zero => intro j4 x4_l2 h1 h2; exact absurd h2 (by omega)
    | succ n ih4 =>
      intro j4 x4_l2 hj4 hn4  hx4 H locs hP hD hS ls hl
      refine lv_iload_n hx hb dX5_neighbours_4 rfl (lv_at hl 3 rfl) ?_
      refine lv_aload_n hx hb dX5_neighbours_5 rfl (lv_at hl 0 rfl) ?_
      refine va_get (D := D) (ci := 5) (v := .int v_number) (C := RX5) (T := TX5) (N := 3) hx hb hts iX5 hown hK hP 0 rfl rfl 2 (by decide) f18 (fun _ h9 => h9) rfl dX5_neighbours_6 ?_
      refine lv_icmp_ge (tgt := 42) hx hb dX5_neighbours_9 (by decide) (fun c9 => ?_) (fun c9 => ?_)
      · have n9 : v_number.toNatClampNeg ≤ j4 := (fx_leN (x := v_number) (y := (nI j4)) (a := v_number.toNatClampNeg) (b := j4) e_number rfl (by omega) (by omega)).mp c9
        have e4 : v_number.toNatClampNeg = j4 := by omega
        subst e4
        subst hx4
        have hl := lv_sub (l' := [(2, .int (X5_neighbours_L4 v_kept p_k v_number.toNatClampNeg))]) hl [2] rfl
        have hP : va_P D vwCl [(a_this, .inr (5, [.ref a_kept, .ref a_ended, .int v_number])), (a_kept, .inl (cI, 20, .inl v_kept)), (a_ended, .inl (cI, 20, .inl v_ended))] H := hP
        have hD : va_D A [(a_this, .inr (5, [.ref a_kept, .ref a_ended, .int v_number])), (a_kept, .inl (cI, 20, .inl v_kept)), (a_ended, .inl (cI, 20, .inl v_ended))] := hD
        refine lv_iload_n hx hb dX5_neighbours_42 rfl (lv_at hl 0 rfl) ?_
        exact hret _ _ _ _ _ _ dX5_neighbours_43 (by simp only [X5_neighbours, if_pos c9]) rfl hP hD hS
      · have n9 : ¬ (v_number.toNatClampNeg ≤ j4) := fun h9 => c9 ((fx_leN (x := v_number) (y := (nI j4)) (a := v_number.toNatClampNeg) (b := j4) e_number rfl (by omega) (by omega)).mpr h9)
        refine lv_iload_n hx hb dX5_neighbours_12 rfl (lv_at hl 3 rfl) ?_
        refine lv_bipush (v := 20) hx hb dX5_neighbours_13 (by decide) ?_
        refine lv_icmp_ge (tgt := 42) hx hb dX5_neighbours_15 (by decide) (fun c15 => ?_) (fun c15 => ?_)
        · have n15 : 20 ≤ j4 := (fx_leN (x := (20 : Int32)) (y := (nI j4)) (a := 20) (b := j4) rfl rfl (by omega) (by omega)).mp c15
          have e4 : v_number.toNatClampNeg = j4 := by omega
          subst e4
          subst hx4
          have hl := lv_sub (l' := [(2, .int (X5_neighbours_L4 v_kept p_k v_number.toNatClampNeg))]) hl [2] rfl
          have hP : va_P D vwCl [(a_this, .inr (5, [.ref a_kept, .ref a_ended, .int v_number])), (a_kept, .inl (cI, 20, .inl v_kept)), (a_ended, .inl (cI, 20, .inl v_ended))] H := hP
          have hD : va_D A [(a_this, .inr (5, [.ref a_kept, .ref a_ended, .int v_number])), (a_kept, .inl (cI, 20, .inl v_kept)), (a_ended, .inl (cI, 20, .inl v_ended))] := hD
          refine lv_iload_n hx hb dX5_neighbours_42 rfl (lv_at hl 0 rfl) ?_
          exact hret _ _ _ _ _ _ dX5_neighbours_43 (by simp only [X5_neighbours, if_neg c9, if_pos c15]) rfl hP hD hS
        · have n15 : ¬ (20 ≤ j4) := fun h9 => c15 ((fx_leN (x := (20 : Int32)) (y := (nI j4)) (a := 20) (b := j4) rfl rfl (by omega) (by omega)).mpr h9)
          refine lv_aload_n hx hb dX5_neighbours_18 rfl (lv_at hl 0 rfl) ?_
          refine va_get (D := D) (ci := 5) (v := .ref a_kept) (C := RX5) (T := TX5) (N := 3) hx hb hts iX5 hown hK hP 0 rfl rfl 0 (by decide) f9 (fun _ h9 => h9) rfl dX5_neighbours_19 ?_
          refine lv_iload_n hx hb dX5_neighbours_22 rfl (lv_at hl 3 rfl) ?_
          refine fx_iald hx hb hK hP 1 0 rfl rfl j4 rfl (by omega) (by decide) dX5_neighbours_23 ?_
          refine lv_iload_n hx hb dX5_neighbours_24 rfl (lv_at hl 1 rfl) ?_
          refine lv_ixor hx hb dX5_neighbours_25 ?_
          refine fx_callSI (As := [.int ((v_kept j4) ^^^ p_k)]) (rest := []) (wr := [(a_this, .inr (5, [.ref a_kept, .ref a_ended, .int v_number])), (a_kept, .inl (cI, 20, .inl v_kept)), (a_ended, .inl (cI, 20, .inl v_ended))]) ⟨hx, hb, hml, hown, hts⟩ hG hGs (k_J6_bitCount_0f7a4 l G hG D cI cJ cZ cH ((v_kept j4) ^^^ p_k)  ) (va_cwS 1 hts gX5_neighbours_J6_bitCount_0f7a4 rfl rfl rfl (by decide +kernel) ⟨by decide, by decide⟩) hK hP hD hS hA [] [0, 1, 2] rfl rfl (by decide) (by decide) (by decide) rfl rfl hl.1 (Nat.le_of_ble_eq_true rfl) dX5_neighbours_26 (Nat.zero_le _) (Nat.zero_le _) (fun H locs hP hD hS => ?_)
          have hP : va_P D vwCl [(a_this, .inr (5, [.ref a_kept, .ref a_ended, .int v_number])), (a_kept, .inl (cI, 20, .inl v_kept)), (a_ended, .inl (cI, 20, .inl v_ended))] H := hP
          have hD : va_D A [(a_this, .inr (5, [.ref a_kept, .ref a_ended, .int v_number])), (a_kept, .inl (cI, 20, .inl v_kept)), (a_ended, .inl (cI, 20, .inl v_ended))] := hD
          refine lv_iconst (v := 1) hx hb dX5_neighbours_29 (by decide) ?_
          refine lv_icmp_ne (tgt := 36) hx hb dX5_neighbours_30 (by decide) (fun c30 => ?_) (fun c30 => ?_)
          · refine lv_iinc (v := nI (j4 + 1)) (lv' := [(3, .int (nI (j4 + 1))), (0, .ref a_this), (1, .int p_k), (2, .int x4_l2)]) hx hb dX5_neighbours_36 hl (k := 3) rfl (fx_inc _ 1) (by decide) rfl (fun ls hl => ?_)
            refine lv_goto (tgt := 4) hx hb dX5_neighbours_39 (by decide) ?_
            exact ih4 (j4 + 1) x4_l2 (by omega) (by omega)  (by simp only [X5_neighbours_L4, hx4, if_neg c9, if_neg c15, if_neg c30]) _ _ hP hD hS ls (lv_sub hl [1, 2, 3, 0] rfl)
          · refine lv_iinc (v := (x4_l2 + 1)) (lv' := [(2, .int (x4_l2 + 1)), (0, .ref a_this), (1, .int p_k), (3, .int (nI j4))]) hx hb dX5_neighbours_33 hl (k := 2) rfl rfl (by decide) rfl (fun ls hl => ?_)
            refine lv_iinc (v := nI (j4 + 1)) (lv' := [(3, .int (nI (j4 + 1))), (2, .int (x4_l2 + 1)), (0, .ref a_this), (1, .int p_k)]) hx hb dX5_neighbours_36 hl (k := 3) rfl (fx_inc _ 1) (by decide) rfl (fun ls hl => ?_)
            refine lv_goto (tgt := 4) hx hb dX5_neighbours_39 (by decide) ?_
            exact ih4 (j4 + 1) (x4_l2 + 1) (by omega) (by omega)  (by simp only [X5_neighbours_L4, hx4, if_neg c9, if_neg c15, if_pos c30]) _ _ hP hD hS ls (lv_sub hl [2, 3, 1, 0] rfl)
  exact L4 (v_number.toNatClampNeg + 1) 0 (0 : Int32) (by omega) (by omega)  rfl _ _ hP hD hS ls (lv_sub hl [2, 3, 1, 0] rfl)

def X5_pairsBy_m72_s0 (v_ended : Nat → Int32) (j5 : Nat) (j24 : Nat) : Int32 := (if (v_ended j5) = (v_ended j24) then (1 : Int32) else (0 : Int32))
def X5_pairsBy_L24 (v_kept : Nat → Int32) (v_ended : Nat → Int32) (p_bit : Int32) (p_alike : Int32) (j5 : Nat) (x5_l3 : Int32) : Nat → (Int32)
  | 0 => x5_l3
  | j24 + 1 => (if ((v_kept j5) ^^^ (v_kept j24)) = p_bit then (if (X5_pairsBy_m72_s0 v_ended j5 j24) = p_alike then ((X5_pairsBy_L24 v_kept v_ended p_bit p_alike j5 x5_l3 j24) + 1) else (X5_pairsBy_L24 v_kept v_ended p_bit p_alike j5 x5_l3 j24)) else (X5_pairsBy_L24 v_kept v_ended p_bit p_alike j5 x5_l3 j24))
def X5_pairsBy_L5 (v_kept : Nat → Int32) (v_ended : Nat → Int32) (p_bit : Int32) (p_alike : Int32) : Nat → (Int32)
  | 0 => (0 : Int32)
  | j5 + 1 => (X5_pairsBy_L24 v_kept v_ended p_bit p_alike j5 (X5_pairsBy_L5 v_kept v_ended p_bit p_alike j5) j5)
def X5_pairsBy (v_number : Int32) (v_kept : Nat → Int32) (v_ended : Nat → Int32) (p_bit : Int32) (p_alike : Int32) : Int32 := (X5_pairsBy_L5 v_kept v_ended p_bit p_alike v_number.toNatClampNeg)
abbrev rX5_pairsBy : Room := { frames := 0, cells := 0, slots := 0, locals := 0 }
theorem n_X5_pairsBy_X5 : ∀ w ∈ wsX50, w ∈ wsX5_pairsBy := by decide +kernel
set_option maxHeartbeats 8000000 in
set_option maxRecDepth 100000 in
theorem k_X5_pairsBy (l : Launch) (G : fxE) (hG : fxGood G) (D : va_G) (cI cJ cZ cH : ClassId) (a_kept a_ended a_this : Nat) (v_number : Int32) (v_kept : Nat → Int32) (v_ended : Nat → Int32) (p_bit : Int32) (p_alike : Int32) (h0 : 0 ≤ v_number) (h1 : v_number ≤ 20) : MetI l yX5_pairsBy wsX5_pairsBy rX5_pairsBy G D (tyL cI cJ cZ cH) [.ref a_this, .int p_bit, .int p_alike] [(a_this, .inr (5, [.ref a_kept, .ref a_ended, .int v_number])), (a_kept, .inl (cI, 20, .inl v_kept)), (a_ended, .inl (cI, 20, .inl v_ended))] (X5_pairsBy v_number v_kept v_ended p_bit p_alike) [(a_this, .inr (5, [.ref a_kept, .ref a_ended, .int v_number])), (a_kept, .inl (cI, 20, .inl v_kept)), (a_ended, .inl (cI, 20, .inl v_ended))] := by
  refine fx_startI (cc := cX5_pairsBy) (n := 6) (rt := .int) (plainFor_of_name (by decide)) rfl (Nat.le_of_ble_eq_true rfl) rfl ?_
  intro p e s m args below meth c A Q ls hx hb hml hown hts hA hGs hK hP hD hS hl hret
  have hl : lv_has ls 6 [(0, .ref a_this), (1, .int p_bit), (2, .int p_alike)] := hl
  have iX5 := n_X5_pairsBy_X5
  have f18 := hts (.fieldLink RX5 18 "FrozeFirst$Tries" "number" "I") (by decide +kernel)
  have f9 := hts (.fieldLink RX5 9 "FrozeFirst$Tries" "kept" "[I") (by decide +kernel)
  have f15 := hts (.fieldLink RX5 15 "FrozeFirst$Tries" "ended" "[I") (by decide +kernel)
  have e_number := fx_tn h0
  have b_number := fx_tb (N := 20) (n := 20) rfl (by decide) h0 h1
  refine lv_iconst (v := 0) hx hb dX5_pairsBy_0 (by decide) ?_
  refine lv_istore_n (lv' := [(3, .int (0 : Int32)), (0, .ref a_this), (1, .int p_bit), (2, .int p_alike)]) hx hb dX5_pairsBy_1 rfl hl (by decide) rfl (fun ls hl => ?_)
  refine lv_iconst (v := 0) hx hb dX5_pairsBy_2 (by decide) ?_
  refine lv_istore (lv' := [(4, .int (0 : Int32)), (3, .int (0 : Int32)), (0, .ref a_this), (1, .int p_bit), (2, .int p_alike)]) hx hb dX5_pairsBy_3 hl (by decide) rfl (fun ls hl => ?_)
  have L5 : ∀ (n j5 : Nat) (x5_l3 : Int32), j5 ≤ v_number.toNatClampNeg → v_number.toNatClampNeg + 1 ≤ j5 + n → X5_pairsBy_L5 v_kept v_ended p_bit p_alike j5 = x5_l3 → ∀ (H : Heap) (locs : List Loc), va_P D vwCl [(a_this, .inr (5, [.ref a_kept, .ref a_ended, .int v_number])), (a_kept, .inl (cI, 20, .inl v_kept)), (a_ended, .inl (cI, 20, .inl v_ended))] H → va_D A [(a_this, .inr (5, [.ref a_kept, .ref a_ended, .int v_number])), (a_kept, .inl (cI, 20, .inl v_kept)), (a_ended, .inl (cI, 20, .inl v_ended))] → va_S A s.heap H locs → ∀ (ls : Array Slot), lv_has ls 6 [(0, .ref a_this), (1, .int p_bit), (2, .int p_alike), (3, .int x5_l3), (4, .int (nI j5))] → W p l e rX5_pairsBy s m args below meth c H locs 0 0 Q (F0 m 5 ls []) := by
    intro n
    induction n with
    | zero => intro j5 x5_l3 h1 h2; exact absurd h2 (by omega)
    | succ n ih5 =>
      intro j5 x5_l3 hj5 hn5  hx5 H locs hP hD hS ls hl
      refine lv_iload hx hb dX5_pairsBy_5 (lv_at hl 4 rfl) ?_
      refine lv_aload_n hx hb dX5_pairsBy_7 rfl (lv_at hl 0 rfl) ?_
      refine va_get (D := D) (ci := 5) (v := .int v_number) (C := RX5) (T := TX5) (N := 3) hx hb hts iX5 hown hK hP 0 rfl rfl 2 (by decide) f18 (fun _ h9 => h9) rfl dX5_pairsBy_8 ?_
      refine lv_icmp_ge (tgt := 91) hx hb dX5_pairsBy_11 (by decide) (fun c11 => ?_) (fun c11 => ?_)
      · have n11 : v_number.toNatClampNeg ≤ j5 := (fx_leN (x := v_number) (y := (nI j5)) (a := v_number.toNatClampNeg) (b := j5) e_number rfl (by omega) (by omega)).mp c11
        have e5 : v_number.toNatClampNeg = j5 := by omega
        subst e5
        subst hx5
        have hl := lv_sub (l' := [(3, .int (X5_pairsBy_L5 v_kept v_ended p_bit p_alike v_number.toNatClampNeg))]) hl [3] rfl
        have hP : va_P D vwCl [(a_this, .inr (5, [.ref a_kept, .ref a_ended, .int v_number])), (a_kept, .inl (cI, 20, .inl v_kept)), (a_ended, .inl (cI, 20, .inl v_ended))] H := hP
        have hD : va_D A [(a_this, .inr (5, [.ref a_kept, .ref a_ended, .int v_number])), (a_kept, .inl (cI, 20, .inl v_kept)), (a_ended, .inl (cI, 20, .inl v_ended))] := hD
        refine lv_iload_n hx hb dX5_pairsBy_91 rfl (lv_at hl 0 rfl) ?_
        exact hret _ _ _ _ _ _ dX5_pairsBy_92 (by simp only [X5_pairsBy, if_pos c11]) rfl hP hD hS
      · have n11 : ¬ (v_number.toNatClampNeg ≤ j5) := fun h9 => c11 ((fx_leN (x := v_number) (y := (nI j5)) (a := v_number.toNatClampNeg) (b := j5) e_number rfl (by omega) (by omega)).mpr h9)
        refine lv_iload hx hb dX5_pairsBy_14 (lv_at hl 4 rfl) ?_
        refine lv_bipush (v := 20) hx hb dX5_pairsBy_16 (by decide) ?_
        refine lv_icmp_ge (tgt := 91) hx hb dX5_pairsBy_18 (by decide) (fun c18 => ?_) (fun c18 => ?_)
        · have n18 : 20 ≤ j5 := (fx_leN (x := (20 : Int32)) (y := (nI j5)) (a := 20) (b := j5) rfl rfl (by omega) (by omega)).mp c18
          have e5 : v_number.toNatClampNeg = j5 := by omega
          subst e5
          subst hx5
          have hl := lv_sub (l' := [(3, .int (X5_pairsBy_L5 v_kept v_ended p_bit p_alike v_number.toNatClampNeg))]) hl [3] rfl
          have hP : va_P D vwCl [(a_this, .inr (5, [.ref a_kept, .ref a_ended, .int v_number])), (a_kept, .inl (cI, 20, .inl v_kept)), (a_ended, .inl (cI, 20, .inl v_ended))] H := hP
          have hD : va_D A [(a_this, .inr (5, [.ref a_kept, .ref a_ended, .int v_number])), (a_kept, .inl (cI, 20, .inl v_kept)), (a_ended, .inl (cI, 20, .inl v_ended))] := hD
          refine lv_iload_n hx hb dX5_pairsBy_91 rfl (lv_at hl 0 rfl) ?_
          exact hret _ _ _ _ _ _ dX5_pairsBy_92 (by simp only [X5_pairsBy, if_neg c11, if_pos c18]) rfl hP hD hS
        · have n18 : ¬ (20 ≤ j5) := fun h9 => c18 ((fx_leN (x := (20 : Int32)) (y := (nI j5)) (a := 20) (b := j5) rfl rfl (by omega) (by omega)).mpr h9)
          refine lv_iconst (v := 0) hx hb dX5_pairsBy_21 (by decide) ?_
          refine lv_istore (lv' := [(5, .int (0 : Int32)), (0, .ref a_this), (1, .int p_bit), (2, .int p_alike), (3, .int x5_l3), (4, .int (nI j5))]) hx hb dX5_pairsBy_22 hl (by decide) rfl (fun ls hl => ?_)
          have L24 : ∀ (n j24 : Nat) (x24_l3 : Int32), j24 ≤ j5 → j5 + 1 ≤ j24 + n → X5_pairsBy_L24 v_kept v_ended p_bit p_alike j5 x5_l3 j24 = x24_l3 → ∀ (H : Heap) (locs : List Loc), va_P D vwCl [(a_this, .inr (5, [.ref a_kept, .ref a_ended, .int v_number])), (a_kept, .inl (cI, 20, .inl v_kept)), (a_ended, .inl (cI, 20, .inl v_ended))] H → va_D A [(a_this, .inr (5, [.ref a_kept, .ref a_ended, .int v_number])), (a_kept, .inl (cI, 20, .inl v_kept)), (a_ended, .inl (cI, 20, .inl v_ended))] → va_S A s.heap H locs → ∀ (ls : Array Slot), lv_has ls 6 [(0, .ref a_this), (1, .int p_bit), (2, .int p_alike), (3, .int x24_l3), (4, .int (nI j5)), (5, .int (nI j24))] → W p l e rX5_pairsBy s m args below meth c H locs 0 0 Q (F0 m 24 ls []) := by
            intro n
            induction n with
            | zero => intro j24 x24_l3 h1 h2; exact absurd h2 (by omega)
            | succ n ih24 =>
              intro j24 x24_l3 hj24 hn24  hx24 H locs hP hD hS ls hl
              refine lv_iload hx hb dX5_pairsBy_24 (lv_at hl 5 rfl) ?_
              refine lv_iload hx hb dX5_pairsBy_26 (lv_at hl 4 rfl) ?_
              refine lv_icmp_ge (tgt := 85) hx hb dX5_pairsBy_28 (by decide) (fun c28 => ?_) (fun c28 => ?_)
              · have n28 : j5 ≤ j24 := (fx_leN (x := (nI j5)) (y := (nI j24)) (a := j5) (b := j24) rfl rfl (by omega) (by omega)).mp c28
                have e24 : j5 = j24 := by omega
                subst e24
                subst hx24
                have hl := lv_sub (l' := [(0, .ref a_this), (1, .int p_bit), (2, .int p_alike), (3, .int (X5_pairsBy_L24 v_kept v_ended p_bit p_alike j5 x5_l3 j5)), (4, .int (nI j5))]) hl [0, 1, 2, 3, 4] rfl
                have hP : va_P D vwCl [(a_this, .inr (5, [.ref a_kept, .ref a_ended, .int v_number])), (a_kept, .inl (cI, 20, .inl v_kept)), (a_ended, .inl (cI, 20, .inl v_ended))] H := hP
                have hD : va_D A [(a_this, .inr (5, [.ref a_kept, .ref a_ended, .int v_number])), (a_kept, .inl (cI, 20, .inl v_kept)), (a_ended, .inl (cI, 20, .inl v_ended))] := hD
                refine lv_iinc (v := nI (j5 + 1)) (lv' := [(4, .int (nI (j5 + 1))), (0, .ref a_this), (1, .int p_bit), (2, .int p_alike), (3, .int (X5_pairsBy_L24 v_kept v_ended p_bit p_alike j5 x5_l3 j5))]) hx hb dX5_pairsBy_85 hl (k := 4) rfl (fx_inc _ 1) (by decide) rfl (fun ls hl => ?_)
                refine lv_goto (tgt := 5) hx hb dX5_pairsBy_88 (by decide) ?_
                exact ih5 (j5 + 1) (X5_pairsBy_L24 v_kept v_ended p_bit p_alike j5 x5_l3 j5) (by omega) (by omega)  (by simp only [X5_pairsBy_L5, hx5, if_neg c11, if_neg c18, if_pos c28]) _ _ hP hD hS ls (lv_sub hl [1, 2, 3, 4, 0] rfl)
              · have n28 : ¬ (j5 ≤ j24) := fun h9 => c28 ((fx_leN (x := (nI j5)) (y := (nI j24)) (a := j5) (b := j24) rfl rfl (by omega) (by omega)).mpr h9)
                refine lv_aload_n hx hb dX5_pairsBy_31 rfl (lv_at hl 0 rfl) ?_
                refine va_get (D := D) (ci := 5) (v := .ref a_kept) (C := RX5) (T := TX5) (N := 3) hx hb hts iX5 hown hK hP 0 rfl rfl 0 (by decide) f9 (fun _ h9 => h9) rfl dX5_pairsBy_32 ?_
                refine lv_iload hx hb dX5_pairsBy_35 (lv_at hl 4 rfl) ?_
                refine fx_iald hx hb hK hP 1 0 rfl rfl j5 rfl (by omega) (by decide) dX5_pairsBy_37 ?_
                refine lv_aload_n hx hb dX5_pairsBy_38 rfl (lv_at hl 0 rfl) ?_
                refine va_get (D := D) (ci := 5) (v := .ref a_kept) (C := RX5) (T := TX5) (N := 3) hx hb hts iX5 hown hK hP 0 rfl rfl 0 (by decide) f9 (fun _ h9 => h9) rfl dX5_pairsBy_39 ?_
                refine lv_iload hx hb dX5_pairsBy_42 (lv_at hl 5 rfl) ?_
                refine fx_iald hx hb hK hP 1 0 rfl rfl j24 rfl (by omega) (by decide) dX5_pairsBy_44 ?_
                refine lv_ixor hx hb dX5_pairsBy_45 ?_
                refine lv_iload_n hx hb dX5_pairsBy_46 rfl (lv_at hl 1 rfl) ?_
                refine lv_icmp_ne (tgt := 79) hx hb dX5_pairsBy_47 (by decide) (fun c47 => ?_) (fun c47 => ?_)
                · refine lv_iinc (v := nI (j24 + 1)) (lv' := [(5, .int (nI (j24 + 1))), (0, .ref a_this), (1, .int p_bit), (2, .int p_alike), (3, .int x24_l3), (4, .int (nI j5))]) hx hb dX5_pairsBy_79 hl (k := 5) rfl (fx_inc _ 1) (by decide) rfl (fun ls hl => ?_)
                  refine lv_goto (tgt := 24) hx hb dX5_pairsBy_82 (by decide) ?_
                  exact ih24 (j24 + 1) x24_l3 (by omega) (by omega)  (by simp only [X5_pairsBy_L24, hx24, if_neg c11, if_neg c18, if_neg c28, if_neg c47]) _ _ hP hD hS ls (lv_sub hl [1, 2, 3, 4, 5, 0] rfl)
                · refine lv_aload_n hx hb dX5_pairsBy_50 rfl (lv_at hl 0 rfl) ?_
                  refine va_get (D := D) (ci := 5) (v := .ref a_ended) (C := RX5) (T := TX5) (N := 3) hx hb hts iX5 hown hK hP 0 rfl rfl 1 (by decide) f15 (fun _ h9 => h9) rfl dX5_pairsBy_51 ?_
                  refine lv_iload hx hb dX5_pairsBy_54 (lv_at hl 4 rfl) ?_
                  refine fx_iald hx hb hK hP 2 0 rfl rfl j5 rfl (by omega) (by decide) dX5_pairsBy_56 ?_
                  refine lv_aload_n hx hb dX5_pairsBy_57 rfl (lv_at hl 0 rfl) ?_
                  refine va_get (D := D) (ci := 5) (v := .ref a_ended) (C := RX5) (T := TX5) (N := 3) hx hb hts iX5 hown hK hP 0 rfl rfl 1 (by decide) f15 (fun _ h9 => h9) rfl dX5_pairsBy_58 ?_
                  refine lv_iload hx hb dX5_pairsBy_61 (lv_at hl 5 rfl) ?_
                  refine fx_iald hx hb hK hP 2 0 rfl rfl j24 rfl (by omega) (by decide) dX5_pairsBy_63 ?_
                  have C72 : ∀ (x72_s0 : Int32), (X5_pairsBy_m72_s0 v_ended j5 j24) = x72_s0 → ∀ (H : Heap) (locs : List Loc), va_P D vwCl [(a_this, .inr (5, [.ref a_kept, .ref a_ended, .int v_number])), (a_kept, .inl (cI, 20, .inl v_kept)), (a_ended, .inl (cI, 20, .inl v_ended))] H → va_D A [(a_this, .inr (5, [.ref a_kept, .ref a_ended, .int v_number])), (a_kept, .inl (cI, 20, .inl v_kept)), (a_ended, .inl (cI, 20, .inl v_ended))] → va_S A s.heap H locs → ∀ (ls : Array Slot), lv_has ls 6 [(0, .ref a_this), (1, .int p_bit), (2, .int p_alike), (3, .int x24_l3), (4, .int (nI j5)), (5, .int (nI j24))] → W p l e rX5_pairsBy s m args below meth c H locs 0 0 Q (F0 m 72 ls [.int x72_s0]) := by
                    intro x72_s0 hx72_s0 H locs hP hD hS ls hl
                    subst hx72_s0
                    refine lv_iload_n hx hb dX5_pairsBy_72 rfl (lv_at hl 2 rfl) ?_
                    refine lv_icmp_ne (tgt := 79) hx hb dX5_pairsBy_73 (by decide) (fun c73 => ?_) (fun c73 => ?_)
                    · refine lv_iinc (v := nI (j24 + 1)) (lv' := [(5, .int (nI (j24 + 1))), (0, .ref a_this), (1, .int p_bit), (2, .int p_alike), (3, .int x24_l3), (4, .int (nI j5))]) hx hb dX5_pairsBy_79 hl (k := 5) rfl (fx_inc _ 1) (by decide) rfl (fun ls hl => ?_)
                      refine lv_goto (tgt := 24) hx hb dX5_pairsBy_82 (by decide) ?_
                      exact ih24 (j24 + 1) x24_l3 (by omega) (by omega)  (by simp only [X5_pairsBy_L24, hx24, if_neg c11, if_neg c18, if_neg c28, if_pos c47, if_neg c73]) _ _ hP hD hS ls (lv_sub hl [1, 2, 3, 4, 5, 0] rfl)
                    · refine lv_iinc (v := (x24_l3 + 1)) (lv' := [(3, .int (x24_l3 + 1)), (0, .ref a_this), (1, .int p_bit), (2, .int p_alike), (4, .int (nI j5)), (5, .int (nI j24))]) hx hb dX5_pairsBy_76 hl (k := 3) rfl rfl (by decide) rfl (fun ls hl => ?_)
                      refine lv_iinc (v := nI (j24 + 1)) (lv' := [(5, .int (nI (j24 + 1))), (3, .int (x24_l3 + 1)), (0, .ref a_this), (1, .int p_bit), (2, .int p_alike), (4, .int (nI j5))]) hx hb dX5_pairsBy_79 hl (k := 5) rfl (fx_inc _ 1) (by decide) rfl (fun ls hl => ?_)
                      refine lv_goto (tgt := 24) hx hb dX5_pairsBy_82 (by decide) ?_
                      exact ih24 (j24 + 1) (x24_l3 + 1) (by omega) (by omega)  (by simp only [X5_pairsBy_L24, hx24, if_neg c11, if_neg c18, if_neg c28, if_pos c47, if_pos c73]) _ _ hP hD hS ls (lv_sub hl [2, 3, 4, 1, 5, 0] rfl)
                  refine lv_icmp_ne (tgt := 71) hx hb dX5_pairsBy_64 (by decide) (fun c64 => ?_) (fun c64 => ?_)
                  · refine lv_iconst (v := 0) hx hb dX5_pairsBy_71 (by decide) ?_
                    exact C72 (0 : Int32) (by simp only [X5_pairsBy_m72_s0, if_neg c11, if_neg c18, if_neg c28, if_pos c47, if_neg c64]) _ _ hP hD hS ls (lv_sub hl [0, 1, 2, 3, 4, 5] rfl)
                  · refine lv_iconst (v := 1) hx hb dX5_pairsBy_67 (by decide) ?_
                    refine lv_goto (tgt := 72) hx hb dX5_pairsBy_68 (by decide) ?_
                    exact C72 (1 : Int32) (by simp only [X5_pairsBy_m72_s0, if_neg c11, if_neg c18, if_neg c28, if_pos c47, if_pos c64]) _ _ hP hD hS ls (lv_sub hl [0, 1, 2, 3, 4, 5] rfl)
          exact L24 (j5 + 1) 0 x5_l3 (by omega) (by omega)  rfl _ _ hP hD hS ls (lv_sub hl [1, 2, 3, 4, 5, 0] rfl)
  exact L5 (v_number.toNatClampNeg + 1) 0 (0 : Int32) (by omega) (by omega)  rfl _ _ hP hD hS ls (lv_sub hl [2, 3, 4, 1, 0] rfl)
