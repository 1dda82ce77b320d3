def X7_waysFrom_m27_s1 (p_k : Int32) (j8 : Nat) (x8_l2 : Int64) : Int64 := (if nI j8 < p_k then (0 : Int64) else x8_l2)
def X7_waysFrom_m78_l2 (p_n : Int32) (j8 : Nat) (x8_l2 : Int64) : Int64 := (if p_n ≤ nI j8 then x8_l2 else (((x8_l2 / (nI (j8 + 1)).toInt64) * (p_n - nI j8).toInt64) + (((x8_l2 - x8_l2 / (nI (j8 + 1)).toInt64 * (nI (j8 + 1)).toInt64) * (p_n - nI j8).toInt64) / (nI (j8 + 1)).toInt64)))
def X7_waysFrom_L8 (p_k : Int32) (p_n : Int32) : Nat → Int64 × Int64
  | 0 => ((1 : Int64), (0 : Int64))
  | j8 + 1 => ((X7_waysFrom_m78_l2 p_n j8 (X7_waysFrom_L8 p_k p_n j8).1), ((X7_waysFrom_L8 p_k p_n j8).2 + (X7_waysFrom_m27_s1 p_k j8 (X7_waysFrom_L8 p_k p_n j8).1)))
def X7_waysFrom (p_k : Int32) (p_n : Int32) : Int64 := ((X7_waysFrom_L8 p_k p_n (p_n.toNatClampNeg + 1)).2)
abbrev rX7_waysFrom : Room := { frames := 0, cells := 0, slots := 0, locals := 0 }
set_option maxHeartbeats 8000000 in
set_option maxRecDepth 100000 in
theorem k_X7_waysFrom (l : Launch) (G : fxE) (hG : fxGood G) (D : va_G) (cI cJ cZ cH : ClassId) (p_k : Int32) (p_n : Int32) (hn0 : 0 ≤ p_n) (hn1 : p_n ≤ 40) : MetL l yX7_waysFrom wsX7_waysFrom rX7_waysFrom G D (tyL cI cJ cZ cH) [.int p_k, .int p_n] [] (X7_waysFrom p_k p_n) [] := by
  refine fx_startL (cc := cX7_waysFrom) (n := 11) (plainFor_of_name (by decide)) rfl (Nat.le_of_ble_eq_true rfl) ?_
  intro p e s m args below meth c A Q ls hx hb hml hown hts hA hGs hK hP hD hS hl hret
  have hl : lv_has ls 11 [(0, .int p_k), (1, .int p_n)] := hl
  have e_n := fx_tn hn0
  have b_n := fx_tb (N := 40) (n := 40) rfl (by decide) hn0 hn1
  refine lv_lconst (v := 1) hx hb dX7_waysFrom_0 (by decide) ?_
  refine lv_lstore_n (lv' := [(2, .long (1 : Int64)), (0, .int p_k), (1, .int p_n)]) hx hb dX7_waysFrom_1 rfl hl (by decide) rfl (fun ls hl => ?_)
  refine lv_lconst (v := 0) hx hb dX7_waysFrom_2 (by decide) ?_
  refine lv_lstore (lv' := [(4, .long (0 : Int64)), (2, .long (1 : Int64)), (0, .int p_k), (1, .int p_n)]) hx hb dX7_waysFrom_3 hl (by decide) rfl (fun ls hl => ?_)
  refine lv_iconst (v := 0) hx hb dX7_waysFrom_5 (by decide) ?_
  refine lv_istore (lv' := [(6, .int (0 : Int32)), (4, .long (0 : Int64)), (2, .long (1 : Int64)), (0, .int p_k), (1, .int p_n)]) hx hb dX7_waysFrom_6 hl (by decide) rfl (fun ls hl => ?_)
  have L8 : ∀ (n j8 : Nat) (x8_l2 : Int64) (x8_l4 : Int64), j8 ≤ (p_n.toNatClampNeg + 1) → (p_n.toNatClampNeg + 1) + 1 ≤ j8 + n → X7_waysFrom_L8 p_k p_n j8 = (x8_l2, x8_l4) → ∀ (H : Heap) (locs : List Loc), va_P D vwCl [] H → va_D A [] → va_S A s.heap H locs → ∀ (ls : Array Slot), lv_has ls 11 [(0, .int p_k), (1, .int p_n), (2, .long x8_l2), (4, .long x8_l4), (6, .int (nI j8))] → W p l e rX7_waysFrom s m args below meth c H locs 0 0 Q (F0 m 8 ls []) := by
    intro n
    induction n with
    | zero => intro j8 x8_l2 x8_l4 h1 h2; exact absurd h2 (by omega)
    | succ n ih8 =>
      intro j8 x8_l2 x8_l4 hj8 hn8  hx8 H locs hP hD hS ls hl
      refine lv_iload hx hb dX7_waysFrom_8 (lv_at hl 4 rfl) ?_
      refine lv_iload_n hx hb dX7_waysFrom_10 rfl (lv_at hl 1 rfl) ?_
      refine lv_icmp_gt (tgt := 84) hx hb dX7_waysFrom_11 (by decide) (fun c11 => ?_) (fun c11 => ?_)
      · have n11 : p_n.toNatClampNeg < j8 := (fx_ltN (x := p_n) (y := (nI j8)) (a := p_n.toNatClampNeg) (b := j8) e_n rfl (by omega) (by omega)).mp c11
        have e8 : (p_n.toNatClampNeg + 1) = j8 := by omega
        subst e8
        have q8_0 : x8_l2 = (X7_waysFrom_L8 p_k p_n (p_n.toNatClampNeg + 1)).1 := by rw [hx8]
        have q8_1 : x8_l4 = (X7_waysFrom_L8 p_k p_n (p_n.toNatClampNeg + 1)).2 := by rw [hx8]
        subst q8_0
        subst q8_1
        have hl := lv_sub (l' := [(4, .long ((X7_waysFrom_L8 p_k p_n (p_n.toNatClampNeg + 1)).2))]) hl [3] rfl
        have hP : va_P D vwCl [] H := hP
        have hD : va_D A [] := hD
        refine lv_lload hx hb dX7_waysFrom_84 (lv_at hl 0 rfl) ?_
        exact hret _ _ _ _ _ _ dX7_waysFrom_86 (by simp only [X7_waysFrom, if_pos c11]) rfl hP hD hS
      · have n11 : ¬ (p_n.toNatClampNeg < j8) := fun h9 => c11 ((fx_ltN (x := p_n) (y := (nI j8)) (a := p_n.toNatClampNeg) (b := j8) e_n rfl (by omega) (by omega)).mpr h9)
        refine lv_lload hx hb dX7_waysFrom_14 (lv_at hl 3 rfl) ?_
        refine lv_iload hx hb dX7_waysFrom_16 (lv_at hl 4 rfl) ?_
        refine lv_iload_n hx hb dX7_waysFrom_18 rfl (lv_at hl 0 rfl) ?_
        have C27 : ∀ (x27_s1 : Int64), (X7_waysFrom_m27_s1 p_k j8 x8_l2) = x27_s1 → ∀ (H : Heap) (locs : List Loc), va_P D vwCl [] H → va_D A [] → va_S A s.heap H locs → ∀ (ls : Array Slot), lv_has ls 11 [(0, .int p_k), (1, .int p_n), (2, .long x8_l2), (6, .int (nI j8))] → W p l e rX7_waysFrom s m args below meth c H locs 0 0 Q (F0 m 27 ls [.long x27_s1, .long x8_l4]) := by
          intro x27_s1 hx27_s1 H locs hP hD hS ls hl
          subst hx27_s1
          refine lv_ladd hx hb dX7_waysFrom_27 ?_
          refine lv_lstore (lv' := [(4, .long (x8_l4 + (X7_waysFrom_m27_s1 p_k j8 x8_l2))), (0, .int p_k), (1, .int p_n), (2, .long x8_l2), (6, .int (nI j8))]) hx hb dX7_waysFrom_28 hl (by decide) rfl (fun ls hl => ?_)
          refine lv_iload hx hb dX7_waysFrom_30 (lv_at hl 4 rfl) ?_
          refine lv_iload_n hx hb dX7_waysFrom_32 rfl (lv_at hl 2 rfl) ?_
          have C78 : ∀ (x78_l2 : Int64), (X7_waysFrom_m78_l2 p_n j8 x8_l2) = x78_l2 → ∀ (H : Heap) (locs : List Loc), va_P D vwCl [] H → va_D A [] → va_S A s.heap H locs → ∀ (ls : Array Slot), lv_has ls 11 [(0, .int p_k), (1, .int p_n), (2, .long x78_l2), (4, .long (x8_l4 + (X7_waysFrom_m27_s1 p_k j8 x8_l2))), (6, .int (nI j8))] → W p l e rX7_waysFrom s m args below meth c H locs 0 0 Q (F0 m 78 ls []) := by
            intro x78_l2 hx78_l2 H locs hP hD hS ls hl
            subst hx78_l2
            refine lv_iinc (v := nI (j8 + 1)) (lv' := [(6, .int (nI (j8 + 1))), (0, .int p_k), (1, .int p_n), (2, .long (X7_waysFrom_m78_l2 p_n j8 x8_l2)), (4, .long (x8_l4 + (X7_waysFrom_m27_s1 p_k j8 x8_l2)))]) hx hb dX7_waysFrom_78 hl (k := 4) rfl (fx_inc _ 1) (by decide) rfl (fun ls hl => ?_)
            refine lv_goto (tgt := 8) hx hb dX7_waysFrom_81 (by decide) ?_
            exact ih8 (j8 + 1) (X7_waysFrom_m78_l2 p_n j8 x8_l2) (x8_l4 + (X7_waysFrom_m27_s1 p_k j8 x8_l2)) (by omega) (by omega)  (by simp only [X7_waysFrom_L8, hx8, if_neg c11]) _ _ hP hD hS ls (lv_sub hl [1, 2, 3, 4, 0] rfl)
          refine lv_icmp_ge (tgt := 78) hx hb dX7_waysFrom_33 (by decide) (fun c33 => ?_) (fun c33 => ?_)
          · have n33 : p_n.toNatClampNeg ≤ j8 := (fx_leN (x := p_n) (y := (nI j8)) (a := p_n.toNatClampNeg) (b := j8) e_n rfl (by omega) (by omega)).mp c33
            exact C78 x8_l2 (by simp only [X7_waysFrom_m78_l2, if_neg c11, if_pos c33]) _ _ hP hD hS ls (lv_sub hl [1, 2, 3, 0, 4] rfl)
          · have n33 : ¬ (p_n.toNatClampNeg ≤ j8) := fun h9 => c33 ((fx_leN (x := p_n) (y := (nI j8)) (a := p_n.toNatClampNeg) (b := j8) e_n rfl (by omega) (by omega)).mpr h9)
            refine lv_lload_n hx hb dX7_waysFrom_36 rfl (lv_at hl 3 rfl) ?_
            refine lv_iload hx hb dX7_waysFrom_37 (lv_at hl 4 rfl) ?_
            refine lv_iconst (v := 1) hx hb dX7_waysFrom_39 (by decide) ?_
            refine lv_iadd hx hb dX7_waysFrom_40 ?_
            refine W.eq (g2 := F0 m 41 ls (.int (nI (j8 + 1)) :: [.long x8_l2])) (congrArg (fun z9 : Int32 => F0 m 41 ls (.int z9 :: [.long x8_l2])) (fx_addN (x := nI j8) (y := (1 : Int32)) (a := j8) (b := 1) rfl rfl)) ?_
            refine lv_i2l hx hb dX7_waysFrom_41 rfl ?_
            refine lv_ldiv hx hb dX7_waysFrom_42 (fx_nzl (by omega) (by omega)) ?_
            refine lv_lstore (lv' := [(7, .long (x8_l2 / (nI (j8 + 1)).toInt64)), (4, .long (x8_l4 + (X7_waysFrom_m27_s1 p_k j8 x8_l2))), (0, .int p_k), (1, .int p_n), (2, .long x8_l2), (6, .int (nI j8))]) hx hb dX7_waysFrom_43 hl (by decide) rfl (fun ls hl => ?_)
            refine lv_lload_n hx hb dX7_waysFrom_45 rfl (lv_at hl 4 rfl) ?_
            refine lv_iload hx hb dX7_waysFrom_46 (lv_at hl 5 rfl) ?_
            refine lv_iconst (v := 1) hx hb dX7_waysFrom_48 (by decide) ?_
            refine lv_iadd hx hb dX7_waysFrom_49 ?_
            refine W.eq (g2 := F0 m 50 ls (.int (nI (j8 + 1)) :: [.long x8_l2])) (congrArg (fun z9 : Int32 => F0 m 50 ls (.int z9 :: [.long x8_l2])) (fx_addN (x := nI j8) (y := (1 : Int32)) (a := j8) (b := 1) rfl rfl)) ?_
            refine lv_i2l hx hb dX7_waysFrom_50 rfl ?_
            refine lv_lrem hx hb dX7_waysFrom_51 (fx_nzl (by omega) (by omega)) ?_
            refine lv_lstore (lv' := [(9, .long (x8_l2 - x8_l2 / (nI (j8 + 1)).toInt64 * (nI (j8 + 1)).toInt64)), (7, .long (x8_l2 / (nI (j8 + 1)).toInt64)), (4, .long (x8_l4 + (X7_waysFrom_m27_s1 p_k j8 x8_l2))), (0, .int p_k), (1, .int p_n), (2, .long x8_l2), (6, .int (nI j8))]) hx hb dX7_waysFrom_52 hl (by decide) rfl (fun ls hl => ?_)
            refine lv_lload hx hb dX7_waysFrom_54 (lv_at hl 1 rfl) ?_
            refine lv_iload_n hx hb dX7_waysFrom_56 rfl (lv_at hl 4 rfl) ?_
            refine lv_iload hx hb dX7_waysFrom_57 (lv_at hl 6 rfl) ?_
            refine lv_isub hx hb dX7_waysFrom_59 ?_
            refine lv_i2l hx hb dX7_waysFrom_60 rfl ?_
            refine lv_lmul hx hb dX7_waysFrom_61 ?_
            refine lv_lload hx hb dX7_waysFrom_62 (lv_at hl 0 rfl) ?_
            refine lv_iload_n hx hb dX7_waysFrom_64 rfl (lv_at hl 4 rfl) ?_
            refine lv_iload hx hb dX7_waysFrom_65 (lv_at hl 6 rfl) ?_
            refine lv_isub hx hb dX7_waysFrom_67 ?_
            refine lv_i2l hx hb dX7_waysFrom_68 rfl ?_
            refine lv_lmul hx hb dX7_waysFrom_69 ?_
            refine lv_iload hx hb dX7_waysFrom_70 (lv_at hl 6 rfl) ?_
            refine lv_iconst (v := 1) hx hb dX7_waysFrom_72 (by decide) ?_
            refine lv_iadd hx hb dX7_waysFrom_73 ?_
            refine W.eq (g2 := F0 m 74 ls (.int (nI (j8 + 1)) :: [.long ((x8_l2 - x8_l2 / (nI (j8 + 1)).toInt64 * (nI (j8 + 1)).toInt64) * (p_n - nI j8).toInt64), .long ((x8_l2 / (nI (j8 + 1)).toInt64) * (p_n - nI j8).toInt64)])) (congrArg (fun z9 : Int32 => F0 m 74 ls (.int z9 :: [.long ((x8_l2 - x8_l2 / (nI (j8 + 1)).toInt64 * (nI (j8 + 1)).toInt64) * (p_n - nI j8).toInt64), .long ((x8_l2 / (nI (j8 + 1)).toInt64) * (p_n - nI j8).toInt64)])) (fx_addN (x := nI j8) (y := (1 : Int32)) (a := j8) (b := 1) rfl rfl)) ?_
            refine lv_i2l hx hb dX7_waysFrom_74 rfl ?_
            refine lv_ldiv hx hb dX7_waysFrom_75 (fx_nzl (by omega) (by omega)) ?_
            refine lv_ladd hx hb dX7_waysFrom_76 ?_
            refine lv_lstore_n (lv' := [(2, .long (((x8_l2 / (nI (j8 + 1)).toInt64) * (p_n - nI j8).toInt64) + (((x8_l2 - x8_l2 / (nI (j8 + 1)).toInt64 * (nI (j8 + 1)).toInt64) * (p_n - nI j8).toInt64) / (nI (j8 + 1)).toInt64))), (9, .long (x8_l2 - x8_l2 / (nI (j8 + 1)).toInt64 * (nI (j8 + 1)).toInt64)), (7, .long (x8_l2 / (nI (j8 + 1)).toInt64)), (4, .long (x8_l4 + (X7_waysFrom_m27_s1 p_k j8 x8_l2))), (0, .int p_k), (1, .int p_n), (6, .int (nI j8))]) hx hb dX7_waysFrom_77 rfl hl (by decide) rfl (fun ls hl => ?_)
            exact C78 (((x8_l2 / (nI (j8 + 1)).toInt64) * (p_n - nI j8).toInt64) + (((x8_l2 - x8_l2 / (nI (j8 + 1)).toInt64 * (nI (j8 + 1)).toInt64) * (p_n - nI j8).toInt64) / (nI (j8 + 1)).toInt64)) (by simp only [X7_waysFrom_m78_l2, if_neg c11, if_neg c33]) _ _ hP hD hS ls (lv_sub hl [4, 5, 0, 3, 6] rfl)
        refine lv_icmp_lt (tgt := 26) hx hb dX7_waysFrom_19 (by decide) (fun c19 => ?_) (fun c19 => ?_)
        · refine lv_lconst (v := 0) hx hb dX7_waysFrom_26 (by decide) ?_
          exact C27 (0 : Int64) (by simp only [X7_waysFrom_m27_s1, if_neg c11, if_pos c19]) _ _ hP hD hS ls (lv_sub hl [0, 1, 2, 4] rfl)
        · refine lv_lload_n hx hb dX7_waysFrom_22 rfl (lv_at hl 2 rfl) ?_
          refine lv_goto (tgt := 27) hx hb dX7_waysFrom_23 (by decide) ?_
          exact C27 x8_l2 (by simp only [X7_waysFrom_m27_s1, if_neg c11, if_neg c19]) _ _ hP hD hS ls (lv_sub hl [0, 1, 2, 4] rfl)
  exact L8 ((p_n.toNatClampNeg + 1) + 1) 0 (1 : Int64) (0 : Int64) (by omega) (by omega)  rfl _ _ hP hD hS ls (lv_sub hl [3, 4, 2, 1, 0] rfl)

theorem fy_shl {x : Int32} (h0 : 1 ≤ x) (h1 : x ≤ 40) : ¬ ((1 : Int64) <<< (x.toInt64 &&& 63)) = 0 := by
  obtain ⟨j, hj, rfl⟩ := nI_of2 (M := 40) (n := 40) rfl (Int32.not_lt.mpr (fx_01 h0)) h1
  clear h0 h1
  revert hj
  revert j
  decide
theorem fy_trd {x n : Int32} (h0 : 0 ≤ n) (h1 : n ≤ 20) (h : ¬ X7_in x 0 (n - 1) = 0) : vp_in x 20 := fx_trd h0 h1 h
theorem fy_m1 {x : Int32} (h : vp_in x 20) (h2 : ¬ 20 ≤ x + 1) : vp_in (x + 1) 20 := by
  rw [vp_in_iff] at h ⊢
  have a := Int32.lt_iff_toInt_lt.mp (Int32.not_le.mp h2)
  have z1 : (1 : Int32).toInt = 1 := rfl
  have z2 : (20 : Int32).toInt = 20 := rfl
  rw [z2] at a
  have e : (x + 1).toInt = x.toInt + 1 := by
    rw [Int32.toInt_add, z1]
    exact Int.bmod_eq_of_le (by omega) (by omega)
  rw [e] at a ⊢
  omega

def X7_chance (p_k : Int32) (p_n : Int32) (p_part : Int32) : Int64 := (if (X7_in p_n (1 : Int32) (40 : Int32)) = 0 then (-1000000000000000002 : Int64) else (if (X7_in p_k (0 : Int32) p_n) = 0 then (-1000000000000000002 : Int64) else (if (X7_isTwo p_part) = 0 then (-1000000000000000002 : Int64) else (X7_term (X7_waysFrom p_k p_n) ((1 : Int64) <<< (p_n.toInt64 &&& 63)) p_part))))
abbrev rX7_chance : Room := { frames := 2, cells := 0, slots := 0, locals := 42 }
set_option maxHeartbeats 8000000 in
set_option maxRecDepth 100000 in
theorem k_X7_chance (l : Launch) (G : fxE) (hG : fxGood G) (D : va_G) (cI cJ cZ cH : ClassId) (a_this : Nat) (p_k : Int32) (p_n : Int32) (p_part : Int32) : MetL l yX7_chance wsX7_chance rX7_chance G D (tyL cI cJ cZ cH) [.ref a_this, .int p_k, .int p_n, .int p_part] [] (X7_chance p_k p_n p_part) [] := by
  refine fx_startL (cc := cX7_chance) (n := 4) (plainFor_of_name (by decide)) rfl (Nat.le_of_ble_eq_true rfl) ?_
  intro p e s m args below meth c A Q ls hx hb hml hown hts hA hGs hK hP hD hS hl hret
  have hl : lv_has ls 4 [(0, .ref a_this), (1, .int p_k), (2, .int p_n), (3, .int p_part)] := hl
  have k152 := hts (.constantLong RX7 152 (-1000000000000000002)) (by decide +kernel)
  refine lv_iload_n hx hb dX7_chance_0 rfl (lv_at hl 2 rfl) ?_
  refine lv_iconst (v := 1) hx hb dX7_chance_1 (by decide) ?_
  refine lv_bipush (v := 40) hx hb dX7_chance_2 (by decide) ?_
  refine fx_callSI (As := [.int p_n, .int (1 : Int32), .int (40 : Int32)]) (rest := []) (wr := []) ⟨hx, hb, hml, hown, hts⟩ hG hGs (k_X7_in l G hG D cI cJ cZ cH p_n (1 : Int32) (40 : Int32)  ) (va_cwS 3 hts gX7_chance_X7_in rfl rfl rfl (by decide +kernel) ⟨by decide, by decide⟩) hK hP hD hS hA [] [] rfl rfl (by decide) (by decide) (by decide) rfl rfl hl.1 (Nat.le_of_ble_eq_true rfl) dX7_chance_4 (Nat.zero_le _) (Nat.zero_le _) (fun H locs hP hD hS => ?_)
  have hP : va_P D vwCl [] H := hP
  have hD : va_D A [] := hD
  refine lv_if_eq (tgt := 26) hx hb dX7_chance_7 (by decide) (fun c7 => ?_) (fun c7 => ?_)
  · refine lv_ldc2 (v := (-1000000000000000002)) hx hb hown k152 dX7_chance_26 ?_
    exact hret _ _ _ _ _ _ dX7_chance_29 (by simp only [X7_chance, if_pos c7]) rfl hP hD hS
  · refine lv_iload_n hx hb dX7_chance_10 rfl (lv_at hl 1 rfl) ?_
    refine lv_iconst (v := 0) hx hb dX7_chance_11 (by decide) ?_
    refine lv_iload_n hx hb dX7_chance_12 rfl (lv_at hl 2 rfl) ?_
    refine fx_callSI (As := [.int p_k, .int (0 : Int32), .int p_n]) (rest := []) (wr := []) ⟨hx, hb, hml, hown, hts⟩ hG hGs (k_X7_in l G hG D cI cJ cZ cH p_k (0 : Int32) p_n  ) (va_cwS 3 hts gX7_chance_X7_in rfl rfl rfl (by decide +kernel) ⟨by decide, by decide⟩) hK hP hD hS hA [] [] rfl rfl (by decide) (by decide) (by decide) rfl rfl hl.1 (Nat.le_of_ble_eq_true rfl) dX7_chance_13 (Nat.zero_le _) (Nat.zero_le _) (fun H locs hP hD hS => ?_)
    have hP : va_P D vwCl [] H := hP
    have hD : va_D A [] := hD
    refine lv_if_eq (tgt := 26) hx hb dX7_chance_16 (by decide) (fun c16 => ?_) (fun c16 => ?_)
    · refine lv_ldc2 (v := (-1000000000000000002)) hx hb hown k152 dX7_chance_26 ?_
      exact hret _ _ _ _ _ _ dX7_chance_29 (by simp only [X7_chance, if_neg c7, if_pos c16]) rfl hP hD hS
    · refine lv_iload_n hx hb dX7_chance_19 rfl (lv_at hl 3 rfl) ?_
      refine fx_callSI (As := [.int p_part]) (rest := []) (wr := []) ⟨hx, hb, hml, hown, hts⟩ hG hGs (k_X7_isTwo l G hG D cI cJ cZ cH p_part  ) (va_cwS 1 hts gX7_chance_X7_isTwo rfl rfl rfl (by decide +kernel) ⟨by decide, by decide⟩) hK hP hD hS hA [] [] rfl rfl (by decide) (by decide) (by decide) rfl rfl hl.1 (Nat.le_of_ble_eq_true rfl) dX7_chance_20 (Nat.zero_le _) (Nat.zero_le _) (fun H locs hP hD hS => ?_)
      have hP : va_P D vwCl [] H := hP
      have hD : va_D A [] := hD
      refine lv_if_ne (tgt := 30) hx hb dX7_chance_23 (by decide) (fun c23 => ?_) (fun c23 => ?_)
      · refine lv_iload_n hx hb dX7_chance_30 rfl (lv_at hl 1 rfl) ?_
        refine lv_iload_n hx hb dX7_chance_31 rfl (lv_at hl 2 rfl) ?_
        refine fx_callSL (As := [.int p_k, .int p_n]) (rest := []) (wr := []) ⟨hx, hb, hml, hown, hts⟩ hG hGs (k_X7_waysFrom l G hG D cI cJ cZ cH p_k p_n  (fx_01 (fy_wi c7).1) ((fy_wi c7).2)) (va_cwS 2 hts gX7_chance_X7_waysFrom rfl rfl rfl (by decide +kernel) ⟨by decide, by decide⟩) hK hP hD hS hA [] [] rfl rfl (by decide) (by decide) (by decide) rfl rfl hl.1 (Nat.le_of_ble_eq_true rfl) dX7_chance_32 (Nat.zero_le _) (Nat.zero_le _) (fun H locs hP hD hS => ?_)
        have hP : va_P D vwCl [] H := hP
        have hD : va_D A [] := hD
        refine lv_lconst (v := 1) hx hb dX7_chance_35 (by decide) ?_
        refine lv_iload_n hx hb dX7_chance_36 rfl (lv_at hl 2 rfl) ?_
        refine lv_lshl hx hb dX7_chance_37 rfl ?_
        refine lv_iload_n hx hb dX7_chance_38 rfl (lv_at hl 3 rfl) ?_
        refine fx_callSL (As := [.long (X7_waysFrom p_k p_n), .long ((1 : Int64) <<< (p_n.toInt64 &&& 63)), .int p_part]) (rest := []) (wr := []) ⟨hx, hb, hml, hown, hts⟩ hG hGs (k_X7_term l G hG D cI cJ cZ cH (X7_waysFrom p_k p_n) ((1 : Int64) <<< (p_n.toInt64 &&& 63)) p_part  (fy_shl (fy_wi c7).1 (fy_wi c7).2)) (va_cwS 3 hts gX7_chance_X7_term rfl rfl rfl (by decide +kernel) ⟨by decide, by decide⟩) hK hP hD hS hA [] [] rfl rfl (by decide) (by decide) (by decide) rfl rfl hl.1 (Nat.le_of_ble_eq_true rfl) dX7_chance_39 (Nat.zero_le _) (Nat.zero_le _) (fun H locs hP hD hS => ?_)
        have hP : va_P D vwCl [] H := hP
        have hD : va_D A [] := hD
        exact hret _ _ _ _ _ _ dX7_chance_42 (by simp only [X7_chance, if_neg c7, if_neg c16, if_neg c23]) rfl hP hD hS
      · refine lv_ldc2 (v := (-1000000000000000002)) hx hb hown k152 dX7_chance_26 ?_
        exact hret _ _ _ _ _ _ dX7_chance_29 (by simp only [X7_chance, if_neg c7, if_neg c16, if_pos c23]) rfl hP hD hS

def X7_pairs_L27 (p_share : Int32) (p_doubt : Int32) : Nat → Nat → (Int32)
  | 0, j27 => (0 : Int32)
  | n + 1, j27 => (if (40 : Int32) < nI j27 then ((-6) : Int32) else (if (((((1 : Int64) <<< ((nI j27).toInt64 &&& 63)) / (1000 : Int64)) * p_doubt.toInt64) + (((((1 : Int64) <<< ((nI j27).toInt64 &&& 63)) - ((1 : Int64) <<< ((nI j27).toInt64 &&& 63)) / (1000 : Int64) * (1000 : Int64)) * p_doubt.toInt64) / (1000 : Int64))) < (X7_waysFrom (((nI j27 * p_share) + (9 : Int32)) / (10 : Int32)) (nI j27)) then (X7_pairs_L27 p_share p_doubt n (j27 + 1)) else nI j27))
def X7_pairs (p_share : Int32) (p_doubt : Int32) : Int32 := (if (X7_in p_share (6 : Int32) (10 : Int32)) = 0 then ((-2) : Int32) else (if (X7_in p_doubt (1 : Int32) (200 : Int32)) = 0 then ((-2) : Int32) else (X7_pairs_L27 p_share p_doubt 41 1)))
abbrev rX7_pairs : Room := { frames := 1, cells := 0, slots := 0, locals := 30 }
set_option maxHeartbeats 8000000 in
set_option maxRecDepth 100000 in
theorem k_X7_pairs (l : Launch) (G : fxE) (hG : fxGood G) (D : va_G) (cI cJ cZ cH : ClassId) (a_this : Nat) (p_share : Int32) (p_doubt : Int32) : MetI l yX7_pairs wsX7_pairs rX7_pairs G D (tyL cI cJ cZ cH) [.ref a_this, .int p_share, .int p_doubt] [] (X7_pairs p_share p_doubt) [] := by
  refine fx_startI (cc := cX7_pairs) (n := 8) (rt := .int) (plainFor_of_name (by decide)) rfl (Nat.le_of_ble_eq_true rfl) rfl ?_
  intro p e s m args below meth c A Q ls hx hb hml hown hts hA hGs hK hP hD hS hl hret
  have hl : lv_has ls 8 [(0, .ref a_this), (1, .int p_share), (2, .int p_doubt)] := hl
  have k90 := hts (.constantLong RX7 90 1000) (by decide +kernel)
  refine lv_iload_n hx hb dX7_pairs_0 rfl (lv_at hl 1 rfl) ?_
  refine lv_bipush (v := 6) hx hb dX7_pairs_1 (by decide) ?_
  refine lv_bipush (v := 10) hx hb dX7_pairs_3 (by decide) ?_
  refine fx_callSI (As := [.int p_share, .int (6 : Int32), .int (10 : Int32)]) (rest := []) (wr := []) ⟨hx, hb, hml, hown, hts⟩ hG hGs (k_X7_in l G hG D cI cJ cZ cH p_share (6 : Int32) (10 : Int32)  ) (va_cwS 3 hts gX7_pairs_X7_in rfl rfl rfl (by decide +kernel) ⟨by decide, by decide⟩) hK hP hD hS hA [] [] rfl rfl (by decide) (by decide) (by decide) rfl rfl hl.1 (Nat.le_of_ble_eq_true rfl) dX7_pairs_5 (Nat.zero_le _) (Nat.zero_le _) (fun H locs hP hD hS => ?_)
  have hP : va_P D vwCl [] H := hP
  have hD : va_D A [] := hD
  refine lv_if_eq (tgt := 22) hx hb dX7_pairs_8 (by decide) (fun c8 => ?_) (fun c8 => ?_)
  · refine lv_bipush (v := (-2)) hx hb dX7_pairs_22 (by decide) ?_
    exact hret _ _ _ _ _ _ dX7_pairs_24 (by simp only [X7_pairs, if_pos c8]) rfl hP hD hS
  · refine lv_iload_n hx hb dX7_pairs_11 rfl (lv_at hl 2 rfl) ?_
    refine lv_iconst (v := 1) hx hb dX7_pairs_12 (by decide) ?_
    refine lv_sipush (v := 200) hx hb dX7_pairs_13 (by decide) ?_
    refine fx_callSI (As := [.int p_doubt, .int (1 : Int32), .int (200 : Int32)]) (rest := []) (wr := []) ⟨hx, hb, hml, hown, hts⟩ hG hGs (k_X7_in l G hG D cI cJ cZ cH p_doubt (1 : Int32) (200 : Int32)  ) (va_cwS 3 hts gX7_pairs_X7_in rfl rfl rfl (by decide +kernel) ⟨by decide, by decide⟩) hK hP hD hS hA [] [] rfl rfl (by decide) (by decide) (by decide) rfl rfl hl.1 (Nat.le_of_ble_eq_true rfl) dX7_pairs_16 (Nat.zero_le _) (Nat.zero_le _) (fun H locs hP hD hS => ?_)
    have hP : va_P D vwCl [] H := hP
    have hD : va_D A [] := hD
    refine lv_if_ne (tgt := 25) hx hb dX7_pairs_19 (by decide) (fun c19 => ?_) (fun c19 => ?_)
    · refine lv_iconst (v := 1) hx hb dX7_pairs_25 (by decide) ?_
      refine lv_istore_n (lv' := [(3, .int (1 : Int32)), (0, .ref a_this), (1, .int p_share), (2, .int p_doubt)]) hx hb dX7_pairs_26 rfl hl (by decide) rfl (fun ls hl => ?_)
      have hM0 : (X7_pairs p_share p_doubt) = (X7_pairs_L27 p_share p_doubt 41 1) := by simp only [X7_pairs, if_neg c8, if_neg c19]
      have L27 : ∀ (n : Nat) (j27 : Nat), 41 - j27 < n → 1 ≤ j27 → j27 ≤ 41 → X7_pairs_L27 p_share p_doubt n j27 = (X7_pairs_L27 p_share p_doubt 41 1) → ∀ (H : Heap) (locs : List Loc), va_P D vwCl [] H → va_D A [] → va_S A s.heap H locs → ∀ (ls : Array Slot), lv_has ls 8 [(1, .int p_share), (2, .int p_doubt), (3, .int (nI j27))] → W p l e rX7_pairs s m args below meth c H locs 0 0 Q (F0 m 27 ls []) := by
        intro n
        induction n with
        | zero => intro j27 h1; exact absurd h1 (Nat.not_lt_zero _)
        | succ n ih27 =>
          intro j27 hm27 hj27 hk27 hF27 H locs hP hD hS ls hl
          refine lv_iload_n hx hb dX7_pairs_27 rfl (lv_at hl 2 rfl) ?_
          refine lv_bipush (v := 40) hx hb dX7_pairs_28 (by decide) ?_
          refine lv_icmp_gt (tgt := 90) hx hb dX7_pairs_30 (by decide) (fun c30 => ?_) (fun c30 => ?_)
          · have n30 : 40 < j27 := (fx_ltN (x := (40 : Int32)) (y := (nI j27)) (a := 40) (b := j27) rfl rfl (by omega) (by omega)).mp c30
            refine lv_bipush (v := (-6)) hx hb dX7_pairs_90 (by decide) ?_
            have hr27 : (X7_pairs_L27 p_share p_doubt 41 1) = ((-6) : Int32) := hF27.symm.trans (by simp only [X7_pairs_L27, if_neg c8, if_neg c19, if_pos c30])
            exact hret _ _ _ _ _ _ dX7_pairs_92 (by rw [hM0, hr27]) rfl hP hD hS
          · have n30 : ¬ (40 < j27) := fun h9 => c30 ((fx_ltN (x := (40 : Int32)) (y := (nI j27)) (a := 40) (b := j27) rfl rfl (by omega) (by omega)).mpr h9)
            refine lv_lconst (v := 1) hx hb dX7_pairs_33 (by decide) ?_
            refine lv_iload_n hx hb dX7_pairs_34 rfl (lv_at hl 2 rfl) ?_
            refine lv_lshl hx hb dX7_pairs_35 rfl ?_
            refine lv_lstore (lv' := [(4, .long ((1 : Int64) <<< ((nI j27).toInt64 &&& 63))), (1, .int p_share), (2, .int p_doubt), (3, .int (nI j27))]) hx hb dX7_pairs_36 hl (by decide) rfl (fun ls hl => ?_)
            refine lv_lload hx hb dX7_pairs_38 (lv_at hl 0 rfl) ?_
            refine lv_ldc2 (v := 1000) hx hb hown k90 dX7_pairs_40 ?_
            refine lv_ldiv hx hb dX7_pairs_43 (by decide) ?_
            refine lv_iload_n hx hb dX7_pairs_44 rfl (lv_at hl 2 rfl) ?_
            refine lv_i2l hx hb dX7_pairs_45 rfl ?_
            refine lv_lmul hx hb dX7_pairs_46 ?_
            refine lv_lload hx hb dX7_pairs_47 (lv_at hl 0 rfl) ?_
            refine lv_ldc2 (v := 1000) hx hb hown k90 dX7_pairs_49 ?_
            refine lv_lrem hx hb dX7_pairs_52 (by decide) ?_
            refine lv_iload_n hx hb dX7_pairs_53 rfl (lv_at hl 2 rfl) ?_
            refine lv_i2l hx hb dX7_pairs_54 rfl ?_
            refine lv_lmul hx hb dX7_pairs_55 ?_
            refine lv_ldc2 (v := 1000) hx hb hown k90 dX7_pairs_56 ?_
            refine lv_ldiv hx hb dX7_pairs_59 (by decide) ?_
            refine lv_ladd hx hb dX7_pairs_60 ?_
            refine lv_lstore (lv' := [(6, .long (((((1 : Int64) <<< ((nI j27).toInt64 &&& 63)) / (1000 : Int64)) * p_doubt.toInt64) + (((((1 : Int64) <<< ((nI j27).toInt64 &&& 63)) - ((1 : Int64) <<< ((nI j27).toInt64 &&& 63)) / (1000 : Int64) * (1000 : Int64)) * p_doubt.toInt64) / (1000 : Int64)))), (4, .long ((1 : Int64) <<< ((nI j27).toInt64 &&& 63))), (1, .int p_share), (2, .int p_doubt), (3, .int (nI j27))]) hx hb dX7_pairs_61 hl (by decide) rfl (fun ls hl => ?_)
            refine lv_iload_n hx hb dX7_pairs_63 rfl (lv_at hl 4 rfl) ?_
            refine lv_iload_n hx hb dX7_pairs_64 rfl (lv_at hl 2 rfl) ?_
            refine lv_imul hx hb dX7_pairs_65 ?_
            refine lv_bipush (v := 9) hx hb dX7_pairs_66 (by decide) ?_
            refine lv_iadd hx hb dX7_pairs_68 ?_
            refine lv_bipush (v := 10) hx hb dX7_pairs_69 (by decide) ?_
            refine lv_idiv hx hb dX7_pairs_71 (by decide) ?_
            refine lv_iload_n hx hb dX7_pairs_72 rfl (lv_at hl 4 rfl) ?_
            refine fx_callSL (As := [.int (((nI j27 * p_share) + (9 : Int32)) / (10 : Int32)), .int (nI j27)]) (rest := []) (wr := []) ⟨hx, hb, hml, hown, hts⟩ hG hGs (k_X7_waysFrom l G hG D cI cJ cZ cH (((nI j27 * p_share) + (9 : Int32)) / (10 : Int32)) (nI j27)  (nI_pos' (by omega)) ((fx_leN (y := 40) (b := 40) rfl rfl (by omega) (by decide)).mpr (by omega))) (va_cwS 2 hts gX7_pairs_X7_waysFrom rfl rfl rfl (by decide +kernel) ⟨by decide, by decide⟩) hK hP hD hS hA [] [] rfl rfl (by decide) (by decide) (by decide) rfl rfl hl.1 (Nat.le_of_ble_eq_true rfl) dX7_pairs_73 (Nat.zero_le _) (Nat.zero_le _) (fun H locs hP hD hS => ?_)
            have hP : va_P D vwCl [] H := hP
            have hD : va_D A [] := hD
            refine lv_lload hx hb dX7_pairs_76 (lv_at hl 0 rfl) ?_
            refine fx_lc_gt (tgt := 84) hx hb dX7_pairs_78 dX7_pairs_79 (by decide) (fun c78 => ?_) (fun c78 => ?_)
            · refine lv_iinc (v := nI (j27 + 1)) (lv' := [(3, .int (nI (j27 + 1))), (6, .long (((((1 : Int64) <<< ((nI j27).toInt64 &&& 63)) / (1000 : Int64)) * p_doubt.toInt64) + (((((1 : Int64) <<< ((nI j27).toInt64 &&& 63)) - ((1 : Int64) <<< ((nI j27).toInt64 &&& 63)) / (1000 : Int64) * (1000 : Int64)) * p_doubt.toInt64) / (1000 : Int64)))), (4, .long ((1 : Int64) <<< ((nI j27).toInt64 &&& 63))), (1, .int p_share), (2, .int p_doubt)]) hx hb dX7_pairs_84 hl (k := 4) rfl (fx_inc _ 1) (by decide) rfl (fun ls hl => ?_)
              refine lv_goto (tgt := 27) hx hb dX7_pairs_87 (by decide) ?_
              exact ih27 (j27 + 1) (by omega) (by omega) (by omega) (by rw [← hF27]; simp only [X7_pairs_L27, if_neg c8, if_neg c19, if_neg c30, if_pos c78]) _ _ hP hD hS ls (lv_sub hl [3, 4, 0] rfl)
            · refine lv_iload_n hx hb dX7_pairs_82 rfl (lv_at hl 4 rfl) ?_
              have hr27 : (X7_pairs_L27 p_share p_doubt 41 1) = nI j27 := hF27.symm.trans (by simp only [X7_pairs_L27, if_neg c8, if_neg c19, if_neg c30, if_neg c78])
              exact hret _ _ _ _ _ _ dX7_pairs_83 (by rw [hM0, hr27]) rfl hP hD hS
      exact L27 41 1 (by omega) (by omega) (by omega) rfl _ _ hP hD hS ls (lv_sub hl [2, 3, 0] rfl)
    · refine lv_bipush (v := (-2)) hx hb dX7_pairs_22 (by decide) ?_
      exact hret _ _ _ _ _ _ dX7_pairs_24 (by simp only [X7_pairs, if_neg c8, if_pos c19]) rfl hP hD hS

def X7_say (v_signs : Int32) (p_s : Int32) : Int32 := (if (X7_in p_s (33 : Int32) (126 : Int32)) = 0 then ((-2) : Int32) else (if v_signs = (60 : Int32) then ((-4) : Int32) else (v_signs + (1 : Int32))))
def X7_say_o_signs (v_signs : Int32) (p_s : Int32) : Int32 := (if (X7_in p_s (33 : Int32) (126 : Int32)) = 0 then v_signs else (if v_signs = (60 : Int32) then v_signs else (v_signs + (1 : Int32))))
def X7_say_o_sign (v_signs : Int32) (v_sign : Nat → Int32) (p_s : Int32) : Nat → Int32 := (if (X7_in p_s (33 : Int32) (126 : Int32)) = 0 then v_sign else (if v_signs = (60 : Int32) then v_sign else (upd v_sign v_signs.toNatClampNeg p_s)))
abbrev rX7_say : Room := { frames := 1, cells := 0, slots := 0, locals := 22 }
theorem n_X7_say_X7 : ∀ w ∈ wsX70, w ∈ wsX7_say := by decide +kernel
set_option maxHeartbeats 8000000 in
set_option maxRecDepth 100000 in
theorem k_X7_say (l : Launch) (G : fxE) (hG : fxGood G) (D : va_G) (cI cJ cZ cH : ClassId) (a_start a_mass a_rows a_told a_sign a_kept a_ended a_cell a_loss a_read a_times a_gains a_image a_isKept a_this : Nat) (v_signs : Int32) (v_many : Int32) (v_left : Int64) (v_rime : Int64) (v_frost : Int64) (v_began : Int32) (v_last : Int32) (v_rounds : Int32) (v_seed : Int32) (v_sign : Nat → Int32) (p_s : Int32) (h0 : 0 ≤ v_signs) (h1 : v_signs ≤ 60) : MetI l yX7_say wsX7_say rX7_say G D (tyL cI cJ cZ cH) [.ref a_this, .int p_s] [(a_this, .inr (7, [.ref a_start, .ref a_mass, .ref a_rows, .ref a_told, .int v_signs, .ref a_sign, .int v_many, .ref a_kept, .ref a_ended, .ref a_cell, .ref a_loss, .long v_left, .long v_rime, .long v_frost, .int v_began, .int v_last, .int v_rounds, .ref a_read, .ref a_times, .ref a_gains, .int v_seed, .ref a_image, .ref a_isKept])), (a_sign, .inl (cI, 60, .inl v_sign))] (X7_say v_signs p_s) [(a_this, .inr (7, [.ref a_start, .ref a_mass, .ref a_rows, .ref a_told, .int (X7_say_o_signs v_signs p_s), .ref a_sign, .int v_many, .ref a_kept, .ref a_ended, .ref a_cell, .ref a_loss, .long v_left, .long v_rime, .long v_frost, .int v_began, .int v_last, .int v_rounds, .ref a_read, .ref a_times, .ref a_gains, .int v_seed, .ref a_image, .ref a_isKept])), (a_sign, .inl (cI, 60, .inl (X7_say_o_sign v_signs v_sign p_s)))] := by
  refine fx_startI (cc := cX7_say) (n := 2) (rt := .int) (plainFor_of_name (by decide)) rfl (Nat.le_of_ble_eq_true rfl) rfl ?_
  intro p e s m args below meth c A Q ls hx hb hml hown hts hA hGs hK hP hD hS hl hret
  have hl : lv_has ls 2 [(0, .ref a_this), (1, .int p_s)] := hl
  have iX7 := n_X7_say_X7
  have f171 := hts (.fieldLink RX7 171 "FrozeFirstModel" "signs" "I") (by decide +kernel)
  have f22 := hts (.fieldLink RX7 22 "FrozeFirstModel" "sign" "[I") (by decide +kernel)
  refine lv_iload_n hx hb dX7_say_0 rfl (lv_at hl 1 rfl) ?_
  refine lv_bipush (v := 33) hx hb dX7_say_1 (by decide) ?_
  refine lv_bipush (v := 126) hx hb dX7_say_3 (by decide) ?_
  refine fx_callSI (As := [.int p_s, .int (33 : Int32), .int (126 : Int32)]) (rest := []) (wr := [(a_this, .inr (7, [.ref a_start, .ref a_mass, .ref a_rows, .ref a_told, .int v_signs, .ref a_sign, .int v_many, .ref a_kept, .ref a_ended, .ref a_cell, .ref a_loss, .long v_left, .long v_rime, .long v_frost, .int v_began, .int v_last, .int v_rounds, .ref a_read, .ref a_times, .ref a_gains, .int v_seed, .ref a_image, .ref a_isKept])), (a_sign, .inl (cI, 60, .inl v_sign))]) ⟨hx, hb, hml, hown, hts⟩ hG hGs (k_X7_in l G hG D cI cJ cZ cH p_s (33 : Int32) (126 : Int32)  ) (va_cwS 3 hts gX7_say_X7_in rfl rfl rfl (by decide +kernel) ⟨by decide, by decide⟩) hK hP hD hS hA [] [0, 1] rfl rfl (by decide) (by decide) (by decide) rfl rfl hl.1 (Nat.le_of_ble_eq_true rfl) dX7_say_5 (Nat.zero_le _) (Nat.zero_le _) (fun H locs hP hD hS => ?_)
  have hP : va_P D vwCl [(a_this, .inr (7, [.ref a_start, .ref a_mass, .ref a_rows, .ref a_told, .int v_signs, .ref a_sign, .int v_many, .ref a_kept, .ref a_ended, .ref a_cell, .ref a_loss, .long v_left, .long v_rime, .long v_frost, .int v_began, .int v_last, .int v_rounds, .ref a_read, .ref a_times, .ref a_gains, .int v_seed, .ref a_image, .ref a_isKept])), (a_sign, .inl (cI, 60, .inl v_sign))] H := hP
  have hD : va_D A [(a_this, .inr (7, [.ref a_start, .ref a_mass, .ref a_rows, .ref a_told, .int v_signs, .ref a_sign, .int v_many, .ref a_kept, .ref a_ended, .ref a_cell, .ref a_loss, .long v_left, .long v_rime, .long v_frost, .int v_began, .int v_last, .int v_rounds, .ref a_read, .ref a_times, .ref a_gains, .int v_seed, .ref a_image, .ref a_isKept])), (a_sign, .inl (cI, 60, .inl v_sign))] := hD
  refine lv_if_ne (tgt := 14) hx hb dX7_say_8 (by decide) (fun c8 => ?_) (fun c8 => ?_)
  · refine lv_aload_n hx hb dX7_say_14 rfl (lv_at hl 0 rfl) ?_
    refine va_get (D := D) (ci := 7) (v := .int v_signs) (C := RX7) (T := TX7) (N := 23) hx hb hts iX7 hown hK hP 0 rfl rfl 4 (by decide) f171 (fun _ h9 => h9) rfl dX7_say_15 ?_
    refine lv_bipush (v := 60) hx hb dX7_say_18 (by decide) ?_
    refine lv_icmp_ne (tgt := 26) hx hb dX7_say_20 (by decide) (fun c20 => ?_) (fun c20 => ?_)
    · refine lv_aload_n hx hb dX7_say_26 rfl (lv_at hl 0 rfl) ?_
      refine va_get (D := D) (ci := 7) (v := .ref a_sign) (C := RX7) (T := TX7) (N := 23) hx hb hts iX7 hown hK hP 0 rfl rfl 5 (by decide) f22 (fun _ h9 => h9) rfl dX7_say_27 ?_
      refine lv_aload_n hx hb dX7_say_30 rfl (lv_at hl 0 rfl) ?_
      refine va_get (D := D) (ci := 7) (v := .int v_signs) (C := RX7) (T := TX7) (N := 23) hx hb hts iX7 hown hK hP 0 rfl rfl 4 (by decide) f171 (fun _ h9 => h9) rfl dX7_say_31 ?_
      refine lv_iload_n hx hb dX7_say_34 rfl (lv_at hl 1 rfl) ?_
      refine va_iast hx hb hK hP hD hS 1 0 rfl rfl (fy_sg h0 h1 c20) dX7_say_35 (fun H locs hP hD hS => ?_)
      have hP : va_P D vwCl [(a_this, .inr (7, [.ref a_start, .ref a_mass, .ref a_rows, .ref a_told, .int v_signs, .ref a_sign, .int v_many, .ref a_kept, .ref a_ended, .ref a_cell, .ref a_loss, .long v_left, .long v_rime, .long v_frost, .int v_began, .int v_last, .int v_rounds, .ref a_read, .ref a_times, .ref a_gains, .int v_seed, .ref a_image, .ref a_isKept])), (a_sign, .inl (cI, 60, .inl (upd v_sign v_signs.toNatClampNeg p_s)))] H := hP
      have hD : va_D A [(a_this, .inr (7, [.ref a_start, .ref a_mass, .ref a_rows, .ref a_told, .int v_signs, .ref a_sign, .int v_many, .ref a_kept, .ref a_ended, .ref a_cell, .ref a_loss, .long v_left, .long v_rime, .long v_frost, .int v_began, .int v_last, .int v_rounds, .ref a_read, .ref a_times, .ref a_gains, .int v_seed, .ref a_image, .ref a_isKept])), (a_sign, .inl (cI, 60, .inl (upd v_sign v_signs.toNatClampNeg p_s)))] := hD
      refine lv_aload_n hx hb dX7_say_36 rfl (lv_at hl 0 rfl) ?_
      refine lv_dup hx hb dX7_say_37 rfl ?_
      refine va_get (D := D) (ci := 7) (v := .int v_signs) (C := RX7) (T := TX7) (N := 23) hx hb hts iX7 hown hK hP 0 rfl rfl 4 (by decide) f171 (fun _ h9 => h9) rfl dX7_say_38 ?_
      refine lv_iconst (v := 1) hx hb dX7_say_41 (by decide) ?_
      refine lv_iadd hx hb dX7_say_42 ?_
      refine va_put (D := D) (ci := 7) (v := .int (v_signs + (1 : Int32))) (ty := .int) (C := RX7) (T := TX7) (N := 23) hx hb hts iX7 tyX7 tyX7_ok nmX7 hown hK hP hD hS 0 rfl rfl 4 (by decide) f171 (fun _ h9 => h9) rfl (tyX7_ok 4 (by decide)) rfl rfl (Nat.le_of_ble_eq_true rfl) dX7_say_43 (fun H locs hP hD hS => ?_)
      have hP : va_P D vwCl [(a_this, .inr (7, [.ref a_start, .ref a_mass, .ref a_rows, .ref a_told, .int (v_signs + (1 : Int32)), .ref a_sign, .int v_many, .ref a_kept, .ref a_ended, .ref a_cell, .ref a_loss, .long v_left, .long v_rime, .long v_frost, .int v_began, .int v_last, .int v_rounds, .ref a_read, .ref a_times, .ref a_gains, .int v_seed, .ref a_image, .ref a_isKept])), (a_sign, .inl (cI, 60, .inl (upd v_sign v_signs.toNatClampNeg p_s)))] H := hP
      have hD : va_D A [(a_this, .inr (7, [.ref a_start, .ref a_mass, .ref a_rows, .ref a_told, .int (v_signs + (1 : Int32)), .ref a_sign, .int v_many, .ref a_kept, .ref a_ended, .ref a_cell, .ref a_loss, .long v_left, .long v_rime, .long v_frost, .int v_began, .int v_last, .int v_rounds, .ref a_read, .ref a_times, .ref a_gains, .int v_seed, .ref a_image, .ref a_isKept])), (a_sign, .inl (cI, 60, .inl (upd v_sign v_signs.toNatClampNeg p_s)))] := hD
      refine lv_aload_n hx hb dX7_say_46 rfl (lv_at hl 0 rfl) ?_
      refine va_get (D := D) (ci := 7) (v := .int (v_signs + (1 : Int32))) (C := RX7) (T := TX7) (N := 23) hx hb hts iX7 hown hK hP 0 rfl rfl 4 (by decide) f171 (fun _ h9 => h9) rfl dX7_say_47 ?_
      exact hret _ _ _ _ _ _ dX7_say_50 (by simp only [X7_say, if_neg c8, if_neg c20]) (by simp only [X7_say_o_signs, X7_say_o_sign, if_neg c8, if_neg c20]) hP hD hS
    · refine lv_bipush (v := (-4)) hx hb dX7_say_23 (by decide) ?_
      exact hret _ _ _ _ _ _ dX7_say_25 (by simp only [X7_say, if_neg c8, if_pos c20]) (by simp only [X7_say_o_signs, X7_say_o_sign, if_neg c8, if_pos c20]) hP hD hS
  · refine lv_bipush (v := (-2)) hx hb dX7_say_11 (by decide) ?_
    exact hret _ _ _ _ _ _ dX7_say_13 (by simp only [X7_say, if_pos c8]) (by simp only [X7_say_o_signs, X7_say_o_sign, if_pos c8]) hP hD hS

def X7_wipe (v_signs : Int32) : Int32 := v_signs
def X7_wipe_o_signs : Int32 := (0 : Int32)
abbrev rX7_wipe : Room := { frames := 0, cells := 0, slots := 0, locals := 0 }
theorem n_X7_wipe_X7 : ∀ w ∈ wsX70, w ∈ wsX7_wipe := by decide +kernel
set_option maxHeartbeats 8000000 in
set_option maxRecDepth 100000 in
theorem k_X7_wipe (l : Launch) (G : fxE) (hG : fxGood G) (D : va_G) (cI cJ cZ cH : ClassId) (a_start a_mass a_rows a_told a_sign a_kept a_ended a_cell a_loss a_read a_times a_gains a_image a_isKept a_this : Nat) (v_signs : Int32) (v_many : Int32) (v_left : Int64) (v_rime : Int64) (v_frost : Int64) (v_began : Int32) (v_last : Int32) (v_rounds : Int32) (v_seed : Int32) : MetI l yX7_wipe wsX7_wipe rX7_wipe G D (tyL cI cJ cZ cH) [.ref a_this] [(a_this, .inr (7, [.ref a_start, .ref a_mass, .ref a_rows, .ref a_told, .int v_signs, .ref a_sign, .int v_many, .ref a_kept, .ref a_ended, .ref a_cell, .ref a_loss, .long v_left, .long v_rime, .long v_frost, .int v_began, .int v_last, .int v_rounds, .ref a_read, .ref a_times, .ref a_gains, .int v_seed, .ref a_image, .ref a_isKept]))] (X7_wipe v_signs) [(a_this, .inr (7, [.ref a_start, .ref a_mass, .ref a_rows, .ref a_told, .int X7_wipe_o_signs, .ref a_sign, .int v_many, .ref a_kept, .ref a_ended, .ref a_cell, .ref a_loss, .long v_left, .long v_rime, .long v_frost, .int v_began, .int v_last, .int v_rounds, .ref a_read, .ref a_times, .ref a_gains, .int v_seed, .ref a_image, .ref a_isKept]))] := by
  refine fx_startI (cc := cX7_wipe) (n := 2) (rt := .int) (plainFor_of_name (by decide)) rfl (Nat.le_of_ble_eq_true rfl) rfl ?_
  intro p e s m args below meth c A Q ls hx hb hml hown hts hA hGs hK hP hD hS hl hret
  have hl : lv_has ls 2 [(0, .ref a_this)] := hl
  have iX7 := n_X7_wipe_X7
  have f171 := hts (.fieldLink RX7 171 "FrozeFirstModel" "signs" "I") (by decide +kernel)
  refine lv_aload_n hx hb dX7_wipe_0 rfl (lv_at hl 0 rfl) ?_
  refine va_get (D := D) (ci := 7) (v := .int v_signs) (C := RX7) (T := TX7) (N := 23) hx hb hts iX7 hown hK hP 0 rfl rfl 4 (by decide) f171 (fun _ h9 => h9) rfl dX7_wipe_1 ?_
  refine lv_istore_n (lv' := [(1, .int v_signs), (0, .ref a_this)]) hx hb dX7_wipe_4 rfl hl (by decide) rfl (fun ls hl => ?_)
  refine lv_aload_n hx hb dX7_wipe_5 rfl (lv_at hl 1 rfl) ?_
  refine lv_iconst (v := 0) hx hb dX7_wipe_6 (by decide) ?_
  refine va_put (D := D) (ci := 7) (v := .int (0 : Int32)) (ty := .int) (C := RX7) (T := TX7) (N := 23) hx hb hts iX7 tyX7 tyX7_ok nmX7 hown hK hP hD hS 0 rfl rfl 4 (by decide) f171 (fun _ h9 => h9) rfl (tyX7_ok 4 (by decide)) rfl rfl (Nat.le_of_ble_eq_true rfl) dX7_wipe_7 (fun H locs hP hD hS => ?_)
  have hP : va_P D vwCl [(a_this, .inr (7, [.ref a_start, .ref a_mass, .ref a_rows, .ref a_told, .int (0 : Int32), .ref a_sign, .int v_many, .ref a_kept, .ref a_ended, .ref a_cell, .ref a_loss, .long v_left, .long v_rime, .long v_frost, .int v_began, .int v_last, .int v_rounds, .ref a_read, .ref a_times, .ref a_gains, .int v_seed, .ref a_image, .ref a_isKept]))] H := hP
  have hD : va_D A [(a_this, .inr (7, [.ref a_start, .ref a_mass, .ref a_rows, .ref a_told, .int (0 : Int32), .ref a_sign, .int v_many, .ref a_kept, .ref a_ended, .ref a_cell, .ref a_loss, .long v_left, .long v_rime, .long v_frost, .int v_began, .int v_last, .int v_rounds, .ref a_read, .ref a_times, .ref a_gains, .int v_seed, .ref a_image, .ref a_isKept]))] := hD
  refine lv_iload_n hx hb dX7_wipe_10 rfl (lv_at hl 0 rfl) ?_
  exact hret _ _ _ _ _ _ dX7_wipe_11 (by simp only [X7_wipe]) (by simp only [X7_wipe_o_signs]) hP hD hS

def X7_faultOf_m123_l2 (v_sign : Nat → Int32) (j6 : Nat) (x6_l1 : Int32) (x6_l2 : Int32) : Int32 := (if (2 : Int32) ≤ x6_l1 then (if x6_l1 = 0 then (if (v_sign j6) = (45 : Int32) then x6_l2 else (if x6_l1 = (1 : Int32) then (if (X7_end (v_sign j6)) < 0 then (if x6_l1 = (3 : Int32) then (if (v_sign j6) = (59 : Int32) then (0 : Int32) else x6_l2) else x6_l2) else x6_l2) else (if x6_l1 = (2 : Int32) then (if (X7_end (v_sign j6)) < 0 then (if x6_l1 = (3 : Int32) then (if (v_sign j6) = (59 : Int32) then (0 : Int32) else x6_l2) else x6_l2) else x6_l2) else (if x6_l1 = (3 : Int32) then (if (v_sign j6) = (59 : Int32) then (0 : Int32) else x6_l2) else x6_l2)))) else (if x6_l1 = (1 : Int32) then (if (X7_end (v_sign j6)) < 0 then (if x6_l1 = (3 : Int32) then (if (v_sign j6) = (59 : Int32) then (0 : Int32) else x6_l2) else x6_l2) else x6_l2) else (if x6_l1 = (2 : Int32) then (if (X7_end (v_sign j6)) < 0 then (if x6_l1 = (3 : Int32) then (if (v_sign j6) = (59 : Int32) then (0 : Int32) else x6_l2) else x6_l2) else x6_l2) else (if x6_l1 = (3 : Int32) then (if (v_sign j6) = (59 : Int32) then (0 : Int32) else x6_l2) else x6_l2)))) else (if (X7_letter (v_sign j6)) < 0 then (if x6_l1 = 0 then (if (v_sign j6) = (45 : Int32) then x6_l2 else (if x6_l1 = (1 : Int32) then (if (X7_end (v_sign j6)) < 0 then (if x6_l1 = (3 : Int32) then (if (v_sign j6) = (59 : Int32) then (0 : Int32) else x6_l2) else x6_l2) else x6_l2) else (if x6_l1 = (2 : Int32) then (if (X7_end (v_sign j6)) < 0 then (if x6_l1 = (3 : Int32) then (if (v_sign j6) = (59 : Int32) then (0 : Int32) else x6_l2) else x6_l2) else x6_l2) else (if x6_l1 = (3 : Int32) then (if (v_sign j6) = (59 : Int32) then (0 : Int32) else x6_l2) else x6_l2)))) else (if x6_l1 = (1 : Int32) then (if (X7_end (v_sign j6)) < 0 then (if x6_l1 = (3 : Int32) then (if (v_sign j6) = (59 : Int32) then (0 : Int32) else x6_l2) else x6_l2) else x6_l2) else (if x6_l1 = (2 : Int32) then (if (X7_end (v_sign j6)) < 0 then (if x6_l1 = (3 : Int32) then (if (v_sign j6) = (59 : Int32) then (0 : Int32) else x6_l2) else x6_l2) else x6_l2) else (if x6_l1 = (3 : Int32) then (if (v_sign j6) = (59 : Int32) then (0 : Int32) else x6_l2) else x6_l2)))) else (if ((x6_l2 >>> ((X7_letter (v_sign j6)) &&& 31)) &&& (1 : Int32)) = 0 then (x6_l2 ||| ((1 : Int32) <<< ((X7_letter (v_sign j6)) &&& 31))) else (if x6_l1 = 0 then (if (v_sign j6) = (45 : Int32) then x6_l2 else (if x6_l1 = (1 : Int32) then (if (X7_end (v_sign j6)) < 0 then (if x6_l1 = (3 : Int32) then (if (v_sign j6) = (59 : Int32) then (0 : Int32) else x6_l2) else x6_l2) else x6_l2) else (if x6_l1 = (2 : Int32) then (if (X7_end (v_sign j6)) < 0 then (if x6_l1 = (3 : Int32) then (if (v_sign j6) = (59 : Int32) then (0 : Int32) else x6_l2) else x6_l2) else x6_l2) else (if x6_l1 = (3 : Int32) then (if (v_sign j6) = (59 : Int32) then (0 : Int32) else x6_l2) else x6_l2)))) else (if x6_l1 = (1 : Int32) then (if (X7_end (v_sign j6)) < 0 then (if x6_l1 = (3 : Int32) then (if (v_sign j6) = (59 : Int32) then (0 : Int32) else x6_l2) else x6_l2) else x6_l2) else (if x6_l1 = (2 : Int32) then (if (X7_end (v_sign j6)) < 0 then (if x6_l1 = (3 : Int32) then (if (v_sign j6) = (59 : Int32) then (0 : Int32) else x6_l2) else x6_l2) else x6_l2) else (if x6_l1 = (3 : Int32) then (if (v_sign j6) = (59 : Int32) then (0 : Int32) else x6_l2) else x6_l2)))))))
def X7_faultOf_m123_l5 (v_sign : Nat → Int32) (j6 : Nat) (x6_l1 : Int32) (x6_l2 : Int32) : Int32 := (if (2 : Int32) ≤ x6_l1 then (if x6_l1 = 0 then (if (v_sign j6) = (45 : Int32) then (2 : Int32) else (if x6_l1 = (1 : Int32) then (if (X7_end (v_sign j6)) < 0 then (if x6_l1 = (3 : Int32) then (if (v_sign j6) = (59 : Int32) then (0 : Int32) else ((-6) : Int32)) else ((-6) : Int32)) else (3 : Int32)) else (if x6_l1 = (2 : Int32) then (if (X7_end (v_sign j6)) < 0 then (if x6_l1 = (3 : Int32) then (if (v_sign j6) = (59 : Int32) then (0 : Int32) else ((-6) : Int32)) else ((-6) : Int32)) else (3 : Int32)) else (if x6_l1 = (3 : Int32) then (if (v_sign j6) = (59 : Int32) then (0 : Int32) else ((-6) : Int32)) else ((-6) : Int32))))) else (if x6_l1 = (1 : Int32) then (if (X7_end (v_sign j6)) < 0 then (if x6_l1 = (3 : Int32) then (if (v_sign j6) = (59 : Int32) then (0 : Int32) else ((-6) : Int32)) else ((-6) : Int32)) else (3 : Int32)) else (if x6_l1 = (2 : Int32) then (if (X7_end (v_sign j6)) < 0 then (if x6_l1 = (3 : Int32) then (if (v_sign j6) = (59 : Int32) then (0 : Int32) else ((-6) : Int32)) else ((-6) : Int32)) else (3 : Int32)) else (if x6_l1 = (3 : Int32) then (if (v_sign j6) = (59 : Int32) then (0 : Int32) else ((-6) : Int32)) else ((-6) : Int32))))) else (if (X7_letter (v_sign j6)) < 0 then (if x6_l1 = 0 then (if (v_sign j6) = (45 : Int32) then (2 : Int32) else (if x6_l1 = (1 : Int32) then (if (X7_end (v_sign j6)) < 0 then (if x6_l1 = (3 : Int32) then (if (v_sign j6) = (59 : Int32) then (0 : Int32) else ((-6) : Int32)) else ((-6) : Int32)) else (3 : Int32)) else (if x6_l1 = (2 : Int32) then (if (X7_end (v_sign j6)) < 0 then (if x6_l1 = (3 : Int32) then (if (v_sign j6) = (59 : Int32) then (0 : Int32) else ((-6) : Int32)) else ((-6) : Int32)) else (3 : Int32)) else (if x6_l1 = (3 : Int32) then (if (v_sign j6) = (59 : Int32) then (0 : Int32) else ((-6) : Int32)) else ((-6) : Int32))))) else (if x6_l1 = (1 : Int32) then (if (X7_end (v_sign j6)) < 0 then (if x6_l1 = (3 : Int32) then (if (v_sign j6) = (59 : Int32) then (0 : Int32) else ((-6) : Int32)) else ((-6) : Int32)) else (3 : Int32)) else (if x6_l1 = (2 : Int32) then (if (X7_end (v_sign j6)) < 0 then (if x6_l1 = (3 : Int32) then (if (v_sign j6) = (59 : Int32) then (0 : Int32) else ((-6) : Int32)) else ((-6) : Int32)) else (3 : Int32)) else (if x6_l1 = (3 : Int32) then (if (v_sign j6) = (59 : Int32) then (0 : Int32) else ((-6) : Int32)) else ((-6) : Int32))))) else (if ((x6_l2 >>> ((X7_letter (v_sign j6)) &&& 31)) &&& (1 : Int32)) = 0 then (1 : Int32) else (if x6_l1 = 0 then (if (v_sign j6) = (45 : Int32) then (2 : Int32) else (if x6_l1 = (1 : Int32) then (if (X7_end (v_sign j6)) < 0 then (if x6_l1 = (3 : Int32) then (if (v_sign j6) = (59 : Int32) then (0 : Int32) else ((-6) : Int32)) else ((-6) : Int32)) else (3 : Int32)) else (if x6_l1 = (2 : Int32) then (if (X7_end (v_sign j6)) < 0 then (if x6_l1 = (3 : Int32) then (if (v_sign j6) = (59 : Int32) then (0 : Int32) else ((-6) : Int32)) else ((-6) : Int32)) else (3 : Int32)) else (if x6_l1 = (3 : Int32) then (if (v_sign j6) = (59 : Int32) then (0 : Int32) else ((-6) : Int32)) else ((-6) : Int32))))) else (if x6_l1 = (1 : Int32) then (if (X7_end (v_sign j6)) < 0 then (if x6_l1 = (3 : Int32) then (if (v_sign j6) = (59 : Int32) then (0 : Int32) else ((-6) : Int32)) else ((-6) : Int32)) else (3 : Int32)) else (if x6_l1 = (2 : Int32) then (if (X7_end (v_sign j6)) < 0 then (if x6_l1 = (3 : Int32) then (if (v_sign j6) = (59 : Int32) then (0 : Int32) else ((-6) : Int32)) else ((-6) : Int32)) else (3 : Int32)) else (if x6_l1 = (3 : Int32) then (if (v_sign j6) = (59 : Int32) then (0 : Int32) else ((-6) : Int32)) else ((-6) : Int32))))))))
def X7_faultOf_L6 (v_signs : Int32) (v_sign : Nat → Int32) : Nat → Nat → Int32 → Int32 → (Int32)
  | 0, j6, x6_l1, x6_l2 => (0 : Int32)
  | n + 1, j6, x6_l1, x6_l2 => (if v_signs ≤ nI j6 then (if x6_l1 = (3 : Int32) then ((-6) : Int32) else v_signs) else (if 0 ≤ (X7_faultOf_m123_l5 v_sign j6 x6_l1 x6_l2) then (X7_faultOf_L6 v_signs v_sign n (j6 + 1) (X7_faultOf_m123_l5 v_sign j6 x6_l1 x6_l2) (X7_faultOf_m123_l2 v_sign j6 x6_l1 x6_l2)) else nI j6))
def X7_faultOf (v_signs : Int32) (v_sign : Nat → Int32) : Int32 := (X7_faultOf_L6 v_signs v_sign 62 0 (0 : Int32) (0 : Int32))
abbrev rX7_faultOf : Room := { frames := 1, cells := 0, slots := 0, locals := 20 }
theorem n_X7_faultOf_X7 : ∀ w ∈ wsX70, w ∈ wsX7_faultOf := by decide +kernel
set_option maxHeartbeats 8000000 in
set_option maxRecDepth 100000 in
theorem k_X7_faultOf (l : Launch) (G : fxE) (hG : fxGood G) (D : va_G) (cI cJ cZ cH : ClassId) (a_start a_mass a_rows a_told a_sign a_kept a_ended a_cell a_loss a_read a_times a_gains a_image a_isKept a_this : Nat) (v_signs : Int32) (v_many : Int32) (v_left : Int64) (v_rime : Int64) (v_frost : Int64) (v_began : Int32) (v_last : Int32) (v_rounds : Int32) (v_seed : Int32) (v_sign : Nat → Int32) (h0 : 0 ≤ v_signs) (h1 : v_signs ≤ 60) : MetI l yX7_faultOf wsX7_faultOf rX7_faultOf G D (tyL cI cJ cZ cH) [.ref a_this] [(a_this, .inr (7, [.ref a_start, .ref a_mass, .ref a_rows, .ref a_told, .int v_signs, .ref a_sign, .int v_many, .ref a_kept, .ref a_ended, .ref a_cell, .ref a_loss, .long v_left, .long v_rime, .long v_frost, .int v_began, .int v_last, .int v_rounds, .ref a_read, .ref a_times, .ref a_gains, .int v_seed, .ref a_image, .ref a_isKept])), (a_sign, .inl (cI, 60, .inl v_sign))] (X7_faultOf v_signs v_sign) [(a_this, .inr (7, [.ref a_start, .ref a_mass, .ref a_rows, .ref a_told, .int v_signs, .ref a_sign, .int v_many, .ref a_kept, .ref a_ended, .ref a_cell, .ref a_loss, .long v_left, .long v_rime, .long v_frost, .int v_began, .int v_last, .int v_rounds, .ref a_read, .ref a_times, .ref a_gains, .int v_seed, .ref a_image, .ref a_isKept])), (a_sign, .inl (cI, 60, .inl v_sign))] := by
  refine fx_startI (cc := cX7_faultOf) (n := 7) (rt := .int) (plainFor_of_name (by decide)) rfl (Nat.le_of_ble_eq_true rfl) rfl ?_
  intro p e s m args below meth c A Q ls hx hb hml hown hts hA hGs hK hP hD hS hl hret
  have hl : lv_has ls 7 [(0, .ref a_this)] := hl
  have iX7 := n_X7_faultOf_X7
  have f171 := hts (.fieldLink RX7 171 "FrozeFirstModel" "signs" "I") (by decide +kernel)
  have f22 := hts (.fieldLink RX7 22 "FrozeFirstModel" "sign" "[I") (by decide +kernel)
  have e_signs := fx_tn h0
  have b_signs := fx_tb (N := 60) (n := 60) rfl (by decide) h0 h1
  refine lv_iconst (v := 0) hx hb dX7_faultOf_0 (by decide) ?_
  refine lv_istore_n (lv' := [(1, .int (0 : Int32)), (0, .ref a_this)]) hx hb dX7_faultOf_1 rfl hl (by decide) rfl (fun ls hl => ?_)
  refine lv_iconst (v := 0) hx hb dX7_faultOf_2 (by decide) ?_
  refine lv_istore_n (lv' := [(2, .int (0 : Int32)), (1, .int (0 : Int32)), (0, .ref a_this)]) hx hb dX7_faultOf_3 rfl hl (by decide) rfl (fun ls hl => ?_)
  refine lv_iconst (v := 0) hx hb dX7_faultOf_4 (by decide) ?_
  refine lv_istore_n (lv' := [(3, .int (0 : Int32)), (2, .int (0 : Int32)), (1, .int (0 : Int32)), (0, .ref a_this)]) hx hb dX7_faultOf_5 rfl hl (by decide) rfl (fun ls hl => ?_)
  have hM0 : (X7_faultOf v_signs v_sign) = (X7_faultOf_L6 v_signs v_sign 62 0 (0 : Int32) (0 : Int32)) := by simp only [X7_faultOf]
  have L6 : ∀ (n : Nat) (j6 : Nat) (x6_l1 : Int32) (x6_l2 : Int32), 61 - j6 < n → j6 ≤ v_signs.toNatClampNeg → X7_faultOf_L6 v_signs v_sign n j6 x6_l1 x6_l2 = (X7_faultOf_L6 v_signs v_sign 62 0 (0 : Int32) (0 : Int32)) → ∀ (H : Heap) (locs : List Loc), va_P D vwCl [(a_this, .inr (7, [.ref a_start, .ref a_mass, .ref a_rows, .ref a_told, .int v_signs, .ref a_sign, .int v_many, .ref a_kept, .ref a_ended, .ref a_cell, .ref a_loss, .long v_left, .long v_rime, .long v_frost, .int v_began, .int v_last, .int v_rounds, .ref a_read, .ref a_times, .ref a_gains, .int v_seed, .ref a_image, .ref a_isKept])), (a_sign, .inl (cI, 60, .inl v_sign))] H → va_D A [(a_this, .inr (7, [.ref a_start, .ref a_mass, .ref a_rows, .ref a_told, .int v_signs, .ref a_sign, .int v_many, .ref a_kept, .ref a_ended, .ref a_cell, .ref a_loss, .long v_left, .long v_rime, .long v_frost, .int v_began, .int v_last, .int v_rounds, .ref a_read, .ref a_times, .ref a_gains, .int v_seed, .ref a_image, .ref a_isKept])), (a_sign, .inl (cI, 60, .inl v_sign))] → va_S A s.heap H locs → ∀ (ls : Array Slot), lv_has ls 7 [(0, .ref a_this), (1, .int x6_l1), (2, .int x6_l2), (3, .int (nI j6))] → W p l e rX7_faultOf s m args below meth c H locs 0 0 Q (F0 m 6 ls []) := by
    intro n
    induction n with
    | zero => intro j6 x6_l1 x6_l2 h1; exact absurd h1 (Nat.not_lt_zero _)
    | succ n ih6 =>
      intro j6 x6_l1 x6_l2 hm6 hj6 hF6 H locs hP hD hS ls hl
      refine lv_iload_n hx hb dX7_faultOf_6 rfl (lv_at hl 3 rfl) ?_
      refine lv_aload_n hx hb dX7_faultOf_7 rfl (lv_at hl 0 rfl) ?_
      refine va_get (D := D) (ci := 7) (v := .int v_signs) (C := RX7) (T := TX7) (N := 23) hx hb hts iX7 hown hK hP 0 rfl rfl 4 (by decide) f171 (fun _ h9 => h9) rfl dX7_faultOf_8 ?_
      refine lv_icmp_ge (tgt := 139) hx hb dX7_faultOf_11 (by decide) (fun c11 => ?_) (fun c11 => ?_)
      · have n11 : v_signs.toNatClampNeg ≤ j6 := (fx_leN (x := v_signs) (y := (nI j6)) (a := v_signs.toNatClampNeg) (b := j6) e_signs rfl (by omega) (by omega)).mp c11
        refine lv_iload_n hx hb dX7_faultOf_139 rfl (lv_at hl 1 rfl) ?_
        refine lv_iconst (v := 3) hx hb dX7_faultOf_140 (by decide) ?_
        refine lv_icmp_ne (tgt := 149) hx hb dX7_faultOf_141 (by decide) (fun c141 => ?_) (fun c141 => ?_)
        · refine lv_aload_n hx hb dX7_faultOf_149 rfl (lv_at hl 0 rfl) ?_
          refine va_get (D := D) (ci := 7) (v := .int v_signs) (C := RX7) (T := TX7) (N := 23) hx hb hts iX7 hown hK hP 0 rfl rfl 4 (by decide) f171 (fun _ h9 => h9) rfl dX7_faultOf_150 ?_
          have hr6 : (X7_faultOf_L6 v_signs v_sign 62 0 (0 : Int32) (0 : Int32)) = v_signs := hF6.symm.trans (by simp only [X7_faultOf_L6, if_pos c11, if_neg c141])
          exact hret _ _ _ _ _ _ dX7_faultOf_153 (by rw [hM0, hr6]) rfl hP hD hS
        · refine lv_bipush (v := (-6)) hx hb dX7_faultOf_144 (by decide) ?_
          refine lv_goto (tgt := 153) hx hb dX7_faultOf_146 (by decide) ?_
          have hr6 : (X7_faultOf_L6 v_signs v_sign 62 0 (0 : Int32) (0 : Int32)) = ((-6) : Int32) := hF6.symm.trans (by simp only [X7_faultOf_L6, if_pos c11, if_pos c141])
          exact hret _ _ _ _ _ _ dX7_faultOf_153 (by rw [hM0, hr6]) rfl hP hD hS
      · have n11 : ¬ (v_signs.toNatClampNeg ≤ j6) := fun h9 => c11 ((fx_leN (x := v_signs) (y := (nI j6)) (a := v_signs.toNatClampNeg) (b := j6) e_signs rfl (by omega) (by omega)).mpr h9)
        refine lv_aload_n hx hb dX7_faultOf_14 rfl (lv_at hl 0 rfl) ?_
        refine va_get (D := D) (ci := 7) (v := .ref a_sign) (C := RX7) (T := TX7) (N := 23) hx hb hts iX7 hown hK hP 0 rfl rfl 5 (by decide) f22 (fun _ h9 => h9) rfl dX7_faultOf_15 ?_
        refine lv_iload_n hx hb dX7_faultOf_18 rfl (lv_at hl 3 rfl) ?_
        refine fx_iald hx hb hK hP 1 0 rfl rfl j6 rfl (by omega) (by decide) dX7_faultOf_19 ?_
        refine lv_istore (lv' := [(4, .int (v_sign j6)), (0, .ref a_this), (1, .int x6_l1), (2, .int x6_l2), (3, .int (nI j6))]) hx hb dX7_faultOf_20 hl (by decide) rfl (fun ls hl => ?_)
        refine lv_bipush (v := (-6)) hx hb dX7_faultOf_22 (by decide) ?_
        refine lv_istore (lv' := [(5, .int ((-6) : Int32)), (4, .int (v_sign j6)), (0, .ref a_this), (1, .int x6_l1), (2, .int x6_l2), (3, .int (nI j6))]) hx hb dX7_faultOf_24 hl (by decide) rfl (fun ls hl => ?_)
        refine lv_iload hx hb dX7_faultOf_26 (lv_at hl 1 rfl) ?_
        refine fx_callSI (As := [.int (v_sign j6)]) (rest := []) (wr := [(a_this, .inr (7, [.ref a_start, .ref a_mass, .ref a_rows, .ref a_told, .int v_signs, .ref a_sign, .int v_many, .ref a_kept, .ref a_ended, .ref a_cell, .ref a_loss, .long v_left, .long v_rime, .long v_frost, .int v_began, .int v_last, .int v_rounds, .ref a_read, .ref a_times, .ref a_gains, .int v_seed, .ref a_image, .ref a_isKept])), (a_sign, .inl (cI, 60, .inl v_sign))]) ⟨hx, hb, hml, hown, hts⟩ hG hGs (k_X7_letter l G hG D cI cJ cZ cH (v_sign j6)  ) (va_cwS 1 hts gX7_faultOf_X7_letter rfl rfl rfl (by decide +kernel) ⟨by decide, by decide⟩) hK hP hD hS hA [] [0, 1] rfl rfl (by decide) (by decide) (by decide) rfl rfl hl.1 (Nat.le_of_ble_eq_true rfl) dX7_faultOf_28 (Nat.zero_le _) (Nat.zero_le _) (fun H locs hP hD hS => ?_)
        have hP : va_P D vwCl [(a_this, .inr (7, [.ref a_start, .ref a_mass, .ref a_rows, .ref a_told, .int v_signs, .ref a_sign, .int v_many, .ref a_kept, .ref a_ended, .ref a_cell, .ref a_loss, .long v_left, .long v_rime, .long v_frost, .int v_began, .int v_last, .int v_rounds, .ref a_read, .ref a_times, .ref a_gains, .int v_seed, .ref a_image, .ref a_isKept])), (a_sign, .inl (cI, 60, .inl v_sign))] H := hP
        have hD : va_D A [(a_this, .inr (7, [.ref a_start, .ref a_mass, .ref a_rows, .ref a_told, .int v_signs, .ref a_sign, .int v_many, .ref a_kept, .ref a_ended, .ref a_cell, .ref a_loss, .long v_left, .long v_rime, .long v_frost, .int v_began, .int v_last, .int v_rounds, .ref a_read, .ref a_times, .ref a_gains, .int v_seed, .ref a_image, .ref a_isKept])), (a_sign, .inl (cI, 60, .inl v_sign))] := hD
        refine lv_istore (lv' := [(6, .int (X7_letter (v_sign j6))), (5, .int ((-6) : Int32)), (4, .int (v_sign j6)), (0, .ref a_this), (1, .int x6_l1), (2, .int x6_l2), (3, .int (nI j6))]) hx hb dX7_faultOf_31 hl (by decide) rfl (fun ls hl => ?_)
        refine lv_iload_n hx hb dX7_faultOf_33 rfl (lv_at hl 4 rfl) ?_
        refine lv_iconst (v := 2) hx hb dX7_faultOf_34 (by decide) ?_
        have C123 : ∀ (x123_l2 : Int32) (x123_l5 : Int32), (X7_faultOf_m123_l2 v_sign j6 x6_l1 x6_l2) = x123_l2 → (X7_faultOf_m123_l5 v_sign j6 x6_l1 x6_l2) = x123_l5 → ∀ (H : Heap) (locs : List Loc), va_P D vwCl [(a_this, .inr (7, [.ref a_start, .ref a_mass, .ref a_rows, .ref a_told, .int v_signs, .ref a_sign, .int v_many, .ref a_kept, .ref a_ended, .ref a_cell, .ref a_loss, .long v_left, .long v_rime, .long v_frost, .int v_began, .int v_last, .int v_rounds, .ref a_read, .ref a_times, .ref a_gains, .int v_seed, .ref a_image, .ref a_isKept])), (a_sign, .inl (cI, 60, .inl v_sign))] H → va_D A [(a_this, .inr (7, [.ref a_start, .ref a_mass, .ref a_rows, .ref a_told, .int v_signs, .ref a_sign, .int v_many, .ref a_kept, .ref a_ended, .ref a_cell, .ref a_loss, .long v_left, .long v_rime, .long v_frost, .int v_began, .int v_last, .int v_rounds, .ref a_read, .ref a_times, .ref a_gains, .int v_seed, .ref a_image, .ref a_isKept])), (a_sign, .inl (cI, 60, .inl v_sign))] → va_S A s.heap H locs → ∀ (ls : Array Slot), lv_has ls 7 [(0, .ref a_this), (2, .int x123_l2), (3, .int (nI j6)), (5, .int x123_l5)] → W p l e rX7_faultOf s m args below meth c H locs 0 0 Q (F0 m 123 ls []) := by
          intro x123_l2 x123_l5 hx123_l2 hx123_l5 H locs hP hD hS ls hl
          subst hx123_l2
          subst hx123_l5
          refine lv_iload hx hb dX7_faultOf_123 (lv_at hl 3 rfl) ?_
          refine lv_if_ge (tgt := 130) hx hb dX7_faultOf_125 (by decide) (fun c125 => ?_) (fun c125 => ?_)
          · refine lv_iload hx hb dX7_faultOf_130 (lv_at hl 3 rfl) ?_
            refine lv_istore_n (lv' := [(1, .int (X7_faultOf_m123_l5 v_sign j6 x6_l1 x6_l2)), (0, .ref a_this), (2, .int (X7_faultOf_m123_l2 v_sign j6 x6_l1 x6_l2)), (3, .int (nI j6)), (5, .int (X7_faultOf_m123_l5 v_sign j6 x6_l1 x6_l2))]) hx hb dX7_faultOf_132 rfl hl (by decide) rfl (fun ls hl => ?_)
            refine lv_iinc (v := nI (j6 + 1)) (lv' := [(3, .int (nI (j6 + 1))), (1, .int (X7_faultOf_m123_l5 v_sign j6 x6_l1 x6_l2)), (0, .ref a_this), (2, .int (X7_faultOf_m123_l2 v_sign j6 x6_l1 x6_l2)), (5, .int (X7_faultOf_m123_l5 v_sign j6 x6_l1 x6_l2))]) hx hb dX7_faultOf_133 hl (k := 3) rfl (fx_inc _ 1) (by decide) rfl (fun ls hl => ?_)
            refine lv_goto (tgt := 6) hx hb dX7_faultOf_136 (by decide) ?_
            exact ih6 (j6 + 1) (X7_faultOf_m123_l5 v_sign j6 x6_l1 x6_l2) (X7_faultOf_m123_l2 v_sign j6 x6_l1 x6_l2) (by omega) (by omega) (by rw [← hF6]; simp only [X7_faultOf_L6, if_neg c11, if_pos c125]) _ _ hP hD hS ls (lv_sub hl [2, 1, 3, 0] rfl)
          · refine lv_iload_n hx hb dX7_faultOf_128 rfl (lv_at hl 2 rfl) ?_
            have hr6 : (X7_faultOf_L6 v_signs v_sign 62 0 (0 : Int32) (0 : Int32)) = nI j6 := hF6.symm.trans (by simp only [X7_faultOf_L6, if_neg c11, if_neg c125])
            exact hret _ _ _ _ _ _ dX7_faultOf_129 (by rw [hM0, hr6]) rfl hP hD hS
        refine lv_icmp_ge (tgt := 65) hx hb dX7_faultOf_35 (by decide) (fun c35 => ?_) (fun c35 => ?_)
        · refine lv_iload_n hx hb dX7_faultOf_65 rfl (lv_at hl 4 rfl) ?_
          refine lv_if_ne (tgt := 82) hx hb dX7_faultOf_66 (by decide) (fun c66 => ?_) (fun c66 => ?_)
          · refine lv_iload_n hx hb dX7_faultOf_82 rfl (lv_at hl 4 rfl) ?_
            refine lv_iconst (v := 1) hx hb dX7_faultOf_83 (by decide) ?_
            refine lv_icmp_eq (tgt := 92) hx hb dX7_faultOf_84 (by decide) (fun c84 => ?_) (fun c84 => ?_)
            · refine lv_iload hx hb dX7_faultOf_92 (lv_at hl 2 rfl) ?_
              refine fx_callSI (As := [.int (v_sign j6)]) (rest := []) (wr := [(a_this, .inr (7, [.ref a_start, .ref a_mass, .ref a_rows, .ref a_told, .int v_signs, .ref a_sign, .int v_many, .ref a_kept, .ref a_ended, .ref a_cell, .ref a_loss, .long v_left, .long v_rime, .long v_frost, .int v_began, .int v_last, .int v_rounds, .ref a_read, .ref a_times, .ref a_gains, .int v_seed, .ref a_image, .ref a_isKept])), (a_sign, .inl (cI, 60, .inl v_sign))]) ⟨hx, hb, hml, hown, hts⟩ hG hGs (k_X7_end l G hG D cI cJ cZ cH (v_sign j6)  ) (va_cwS 1 hts gX7_faultOf_X7_end rfl rfl rfl (by decide +kernel) ⟨by decide, by decide⟩) hK hP hD hS hA [] [0, 1] rfl rfl (by decide) (by decide) (by decide) rfl rfl hl.1 (Nat.le_of_ble_eq_true rfl) dX7_faultOf_94 (Nat.zero_le _) (Nat.zero_le _) (fun H locs hP hD hS => ?_)
              have hP : va_P D vwCl [(a_this, .inr (7, [.ref a_start, .ref a_mass, .ref a_rows, .ref a_told, .int v_signs, .ref a_sign, .int v_many, .ref a_kept, .ref a_ended, .ref a_cell, .ref a_loss, .long v_left, .long v_rime, .long v_frost, .int v_began, .int v_last, .int v_rounds, .ref a_read, .ref a_times, .ref a_gains, .int v_seed, .ref a_image, .ref a_isKept])), (a_sign, .inl (cI, 60, .inl v_sign))] H := hP
              have hD : va_D A [(a_this, .inr (7, [.ref a_start, .ref a_mass, .ref a_rows, .ref a_told, .int v_signs, .ref a_sign, .int v_many, .ref a_kept, .ref a_ended, .ref a_cell, .ref a_loss, .long v_left, .long v_rime, .long v_frost, .int v_began, .int v_last, .int v_rounds, .ref a_read, .ref a_times, .ref a_gains, .int v_seed, .ref a_image, .ref a_isKept])), (a_sign, .inl (cI, 60, .inl v_sign))] := hD
              refine lv_if_lt (tgt := 106) hx hb dX7_faultOf_97 (by decide) (fun c97 => ?_) (fun c97 => ?_)
              · refine lv_iload_n hx hb dX7_faultOf_106 rfl (lv_at hl 4 rfl) ?_
                refine lv_iconst (v := 3) hx hb dX7_faultOf_107 (by decide) ?_
                refine lv_icmp_ne (tgt := 123) hx hb dX7_faultOf_108 (by decide) (fun c108 => ?_) (fun c108 => ?_)
                · exact C123 x6_l2 ((-6) : Int32) (by simp only [X7_faultOf_m123_l2, if_neg c11, if_pos c35, if_neg c66, if_pos c84, if_pos c97, if_neg c108]) (by simp only [X7_faultOf_m123_l5, if_neg c11, if_pos c35, if_neg c66, if_pos c84, if_pos c97, if_neg c108]) _ _ hP hD hS ls (lv_sub hl [3, 5, 6, 1] rfl)
                · refine lv_iload hx hb dX7_faultOf_111 (lv_at hl 2 rfl) ?_
                  refine lv_bipush (v := 59) hx hb dX7_faultOf_113 (by decide) ?_
                  refine lv_icmp_ne (tgt := 123) hx hb dX7_faultOf_115 (by decide) (fun c115 => ?_) (fun c115 => ?_)
                  · exact C123 x6_l2 ((-6) : Int32) (by simp only [X7_faultOf_m123_l2, if_neg c11, if_pos c35, if_neg c66, if_pos c84, if_pos c97, if_pos c108, if_neg c115]) (by simp only [X7_faultOf_m123_l5, if_neg c11, if_pos c35, if_neg c66, if_pos c84, if_pos c97, if_pos c108, if_neg c115]) _ _ hP hD hS ls (lv_sub hl [3, 5, 6, 1] rfl)
                  · refine lv_iconst (v := 0) hx hb dX7_faultOf_118 (by decide) ?_
                    refine lv_istore_n (lv' := [(2, .int (0 : Int32)), (6, .int (X7_letter (v_sign j6))), (5, .int ((-6) : Int32)), (4, .int (v_sign j6)), (0, .ref a_this), (1, .int x6_l1), (3, .int (nI j6))]) hx hb dX7_faultOf_119 rfl hl (by decide) rfl (fun ls hl => ?_)
                    refine lv_iconst (v := 0) hx hb dX7_faultOf_120 (by decide) ?_
                    refine lv_istore (lv' := [(5, .int (0 : Int32)), (2, .int (0 : Int32)), (6, .int (X7_letter (v_sign j6))), (4, .int (v_sign j6)), (0, .ref a_this), (1, .int x6_l1), (3, .int (nI j6))]) hx hb dX7_faultOf_121 hl (by decide) rfl (fun ls hl => ?_)
                    exact C123 (0 : Int32) (0 : Int32) (by simp only [X7_faultOf_m123_l2, if_neg c11, if_pos c35, if_neg c66, if_pos c84, if_pos c97, if_pos c108, if_pos c115]) (by simp only [X7_faultOf_m123_l5, if_neg c11, if_pos c35, if_neg c66, if_pos c84, if_pos c97, if_pos c108, if_pos c115]) _ _ hP hD hS ls (lv_sub hl [4, 1, 6, 0] rfl)
              · refine lv_iconst (v := 3) hx hb dX7_faultOf_100 (by decide) ?_
                refine lv_istore (lv' := [(5, .int (3 : Int32)), (6, .int (X7_letter (v_sign j6))), (4, .int (v_sign j6)), (0, .ref a_this), (1, .int x6_l1), (2, .int x6_l2), (3, .int (nI j6))]) hx hb dX7_faultOf_101 hl (by decide) rfl (fun ls hl => ?_)
                refine lv_goto (tgt := 123) hx hb dX7_faultOf_103 (by decide) ?_
                exact C123 x6_l2 (3 : Int32) (by simp only [X7_faultOf_m123_l2, if_neg c11, if_pos c35, if_neg c66, if_pos c84, if_neg c97]) (by simp only [X7_faultOf_m123_l5, if_neg c11, if_pos c35, if_neg c66, if_pos c84, if_neg c97]) _ _ hP hD hS ls (lv_sub hl [3, 5, 6, 0] rfl)
            · refine lv_iload_n hx hb dX7_faultOf_87 rfl (lv_at hl 4 rfl) ?_
              refine lv_iconst (v := 2) hx hb dX7_faultOf_88 (by decide) ?_
              refine lv_icmp_ne (tgt := 106) hx hb dX7_faultOf_89 (by decide) (fun c89 => ?_) (fun c89 => ?_)
              · refine lv_iload_n hx hb dX7_faultOf_106 rfl (lv_at hl 4 rfl) ?_
                refine lv_iconst (v := 3) hx hb dX7_faultOf_107 (by decide) ?_
                refine lv_icmp_ne (tgt := 123) hx hb dX7_faultOf_108 (by decide) (fun c108 => ?_) (fun c108 => ?_)
                · exact C123 x6_l2 ((-6) : Int32) (by simp only [X7_faultOf_m123_l2, if_neg c11, if_pos c35, if_neg c66, if_neg c84, if_neg c89, if_neg c108]) (by simp only [X7_faultOf_m123_l5, if_neg c11, if_pos c35, if_neg c66, if_neg c84, if_neg c89, if_neg c108]) _ _ hP hD hS ls (lv_sub hl [3, 5, 6, 1] rfl)
                · refine lv_iload hx hb dX7_faultOf_111 (lv_at hl 2 rfl) ?_
                  refine lv_bipush (v := 59) hx hb dX7_faultOf_113 (by decide) ?_
                  refine lv_icmp_ne (tgt := 123) hx hb dX7_faultOf_115 (by decide) (fun c115 => ?_) (fun c115 => ?_)
                  · exact C123 x6_l2 ((-6) : Int32) (by simp only [X7_faultOf_m123_l2, if_neg c11, if_pos c35, if_neg c66, if_neg c84, if_neg c89, if_pos c108, if_neg c115]) (by simp only [X7_faultOf_m123_l5, if_neg c11, if_pos c35, if_neg c66, if_neg c84, if_neg c89, if_pos c108, if_neg c115]) _ _ hP hD hS ls (lv_sub hl [3, 5, 6, 1] rfl)
                  · refine lv_iconst (v := 0) hx hb dX7_faultOf_118 (by decide) ?_
                    refine lv_istore_n (lv' := [(2, .int (0 : Int32)), (6, .int (X7_letter (v_sign j6))), (5, .int ((-6) : Int32)), (4, .int (v_sign j6)), (0, .ref a_this), (1, .int x6_l1), (3, .int (nI j6))]) hx hb dX7_faultOf_119 rfl hl (by decide) rfl (fun ls hl => ?_)
                    refine lv_iconst (v := 0) hx hb dX7_faultOf_120 (by decide) ?_
                    refine lv_istore (lv' := [(5, .int (0 : Int32)), (2, .int (0 : Int32)), (6, .int (X7_letter (v_sign j6))), (4, .int (v_sign j6)), (0, .ref a_this), (1, .int x6_l1), (3, .int (nI j6))]) hx hb dX7_faultOf_121 hl (by decide) rfl (fun ls hl => ?_)
                    exact C123 (0 : Int32) (0 : Int32) (by simp only [X7_faultOf_m123_l2, if_neg c11, if_pos c35, if_neg c66, if_neg c84, if_neg c89, if_pos c108, if_pos c115]) (by simp only [X7_faultOf_m123_l5, if_neg c11, if_pos c35, if_neg c66, if_neg c84, if_neg c89, if_pos c108, if_pos c115]) _ _ hP hD hS ls (lv_sub hl [4, 1, 6, 0] rfl)
              · refine lv_iload hx hb dX7_faultOf_92 (lv_at hl 2 rfl) ?_
                refine fx_callSI (As := [.int (v_sign j6)]) (rest := []) (wr := [(a_this, .inr (7, [.ref a_start, .ref a_mass, .ref a_rows, .ref a_told, .int v_signs, .ref a_sign, .int v_many, .ref a_kept, .ref a_ended, .ref a_cell, .ref a_loss, .long v_left, .long v_rime, .long v_frost, .int v_began, .int v_last, .int v_rounds, .ref a_read, .ref a_times, .ref a_gains, .int v_seed, .ref a_image, .ref a_isKept])), (a_sign, .inl (cI, 60, .inl v_sign))]) ⟨hx, hb, hml, hown, hts⟩ hG hGs (k_X7_end l G hG D cI cJ cZ cH (v_sign j6)  ) (va_cwS 1 hts gX7_faultOf_X7_end rfl rfl rfl (by decide +kernel) ⟨by decide, by decide⟩) hK hP hD hS hA [] [0, 1] rfl rfl (by decide) (by decide) (by decide) rfl rfl hl.1 (Nat.le_of_ble_eq_true rfl) dX7_faultOf_94 (Nat.zero_le _) (Nat.zero_le _) (fun H locs hP hD hS => ?_)
                have hP : va_P D vwCl [(a_this, .inr (7, [.ref a_start, .ref a_mass, .ref a_rows, .ref a_told, .int v_signs, .ref a_sign, .int v_many, .ref a_kept, .ref a_ended, .ref a_cell, .ref a_loss, .long v_left, .long v_rime, .long v_frost, .int v_began, .int v_last, .int v_rounds, .ref a_read, .ref a_times, .ref a_gains, .int v_seed, .ref a_image, .ref a_isKept])), (a_sign, .inl (cI, 60, .inl v_sign))] H := hP
                have hD : va_D A [(a_this, .inr (7, [.ref a_start, .ref a_mass, .ref a_rows, .ref a_told, .int v_signs, .ref a_sign, .int v_many, .ref a_kept, .ref a_ended, .ref a_cell, .ref a_loss, .long v_left, .long v_rime, .long v_frost, .int v_began, .int v_last, .int v_rounds, .ref a_read, .ref a_times, .ref a_gains, .int v_seed, .ref a_image, .ref a_isKept])), (a_sign, .inl (cI, 60, .inl v_sign))] := hD
                refine lv_if_lt (tgt := 106) hx hb dX7_faultOf_97 (by decide) (fun c97 => ?_) (fun c97 => ?_)
                · refine lv_iload_n hx hb dX7_faultOf_106 rfl (lv_at hl 4 rfl) ?_
                  refine lv_iconst (v := 3) hx hb dX7_faultOf_107 (by decide) ?_
                  refine lv_icmp_ne (tgt := 123) hx hb dX7_faultOf_108 (by decide) (fun c108 => ?_) (fun c108 => ?_)
                  · exact C123 x6_l2 ((-6) : Int32) (by simp only [X7_faultOf_m123_l2, if_neg c11, if_pos c35, if_neg c66, if_neg c84, if_pos c89, if_pos c97, if_neg c108]) (by simp only [X7_faultOf_m123_l5, if_neg c11, if_pos c35, if_neg c66, if_neg c84, if_pos c89, if_pos c97, if_neg c108]) _ _ hP hD hS ls (lv_sub hl [3, 5, 6, 1] rfl)
                  · refine lv_iload hx hb dX7_faultOf_111 (lv_at hl 2 rfl) ?_
                    refine lv_bipush (v := 59) hx hb dX7_faultOf_113 (by decide) ?_
                    refine lv_icmp_ne (tgt := 123) hx hb dX7_faultOf_115 (by decide) (fun c115 => ?_) (fun c115 => ?_)
                    · exact C123 x6_l2 ((-6) : Int32) (by simp only [X7_faultOf_m123_l2, if_neg c11, if_pos c35, if_neg c66, if_neg c84, if_pos c89, if_pos c97, if_pos c108, if_neg c115]) (by simp only [X7_faultOf_m123_l5, if_neg c11, if_pos c35, if_neg c66, if_neg c84, if_pos c89, if_pos c97, if_pos c108, if_neg c115]) _ _ hP hD hS ls (lv_sub hl [3, 5, 6, 1] rfl)
                    · refine lv_iconst (v := 0) hx hb dX7_faultOf_118 (by decide) ?_
                      refine lv_istore_n (lv' := [(2, .int (0 : Int32)), (6, .int (X7_letter (v_sign j6))), (5, .int ((-6) : Int32)), (4, .int (v_sign j6)), (0, .ref a_this), (1, .int x6_l1), (3, .int (nI j6))]) hx hb dX7_faultOf_119 rfl hl (by decide) rfl (fun ls hl => ?_)
                      refine lv_iconst (v := 0) hx hb dX7_faultOf_120 (by decide) ?_
                      refine lv_istore (lv' := [(5, .int (0 : Int32)), (2, .int (0 : Int32)), (6, .int (X7_letter (v_sign j6))), (4, .int (v_sign j6)), (0, .ref a_this), (1, .int x6_l1), (3, .int (nI j6))]) hx hb dX7_faultOf_121 hl (by decide) rfl (fun ls hl => ?_)
                      exact C123 (0 : Int32) (0 : Int32) (by simp only [X7_faultOf_m123_l2, if_neg c11, if_pos c35, if_neg c66, if_neg c84, if_pos c89, if_pos c97, if_pos c108, if_pos c115]) (by simp only [X7_faultOf_m123_l5, if_neg c11, if_pos c35, if_neg c66, if_neg c84, if_pos c89, if_pos c97, if_pos c108, if_pos c115]) _ _ hP hD hS ls (lv_sub hl [4, 1, 6, 0] rfl)
                · refine lv_iconst (v := 3) hx hb dX7_faultOf_100 (by decide) ?_
                  refine lv_istore (lv' := [(5, .int (3 : Int32)), (6, .int (X7_letter (v_sign j6))), (4, .int (v_sign j6)), (0, .ref a_this), (1, .int x6_l1), (2, .int x6_l2), (3, .int (nI j6))]) hx hb dX7_faultOf_101 hl (by decide) rfl (fun ls hl => ?_)
                  refine lv_goto (tgt := 123) hx hb dX7_faultOf_103 (by decide) ?_
                  exact C123 x6_l2 (3 : Int32) (by simp only [X7_faultOf_m123_l2, if_neg c11, if_pos c35, if_neg c66, if_neg c84, if_pos c89, if_neg c97]) (by simp only [X7_faultOf_m123_l5, if_neg c11, if_pos c35, if_neg c66, if_neg c84, if_pos c89, if_neg c97]) _ _ hP hD hS ls (lv_sub hl [3, 5, 6, 0] rfl)
          · refine lv_iload hx hb dX7_faultOf_69 (lv_at hl 2 rfl) ?_
            refine lv_bipush (v := 45) hx hb dX7_faultOf_71 (by decide) ?_
            refine lv_icmp_ne (tgt := 82) hx hb dX7_faultOf_73 (by decide) (fun c73 => ?_) (fun c73 => ?_)
            · refine lv_iload_n hx hb dX7_faultOf_82 rfl (lv_at hl 4 rfl) ?_
              refine lv_iconst (v := 1) hx hb dX7_faultOf_83 (by decide) ?_
              refine lv_icmp_eq (tgt := 92) hx hb dX7_faultOf_84 (by decide) (fun c84 => ?_) (fun c84 => ?_)
              · refine lv_iload hx hb dX7_faultOf_92 (lv_at hl 2 rfl) ?_
                refine fx_callSI (As := [.int (v_sign j6)]) (rest := []) (wr := [(a_this, .inr (7, [.ref a_start, .ref a_mass, .ref a_rows, .ref a_told, .int v_signs, .ref a_sign, .int v_many, .ref a_kept, .ref a_ended, .ref a_cell, .ref a_loss, .long v_left, .long v_rime, .long v_frost, .int v_began, .int v_last, .int v_rounds, .ref a_read, .ref a_times, .ref a_gains, .int v_seed, .ref a_image, .ref a_isKept])), (a_sign, .inl (cI, 60, .inl v_sign))]) ⟨hx, hb, hml, hown, hts⟩ hG hGs (k_X7_end l G hG D cI cJ cZ cH (v_sign j6)  ) (va_cwS 1 hts gX7_faultOf_X7_end rfl rfl rfl (by decide +kernel) ⟨by decide, by decide⟩) hK hP hD hS hA [] [0, 1] rfl rfl (by decide) (by decide) (by decide) rfl rfl hl.1 (Nat.le_of_ble_eq_true rfl) dX7_faultOf_94 (Nat.zero_le _) (Nat.zero_le _) (fun H locs hP hD hS => ?_)
                have hP : va_P D vwCl [(a_this, .inr (7, [.ref a_start, .ref a_mass, .ref a_rows, .ref a_told, .int v_signs, .ref a_sign, .int v_many, .ref a_kept, .ref a_ended, .ref a_cell, .ref a_loss, .long v_left, .long v_rime, .long v_frost, .int v_began, .int v_last, .int v_rounds, .ref a_read, .ref a_times, .ref a_gains, .int v_seed, .ref a_image, .ref a_isKept])), (a_sign, .inl (cI, 60, .inl v_sign))] H := hP
                have hD : va_D A [(a_this, .inr (7, [.ref a_start, .ref a_mass, .ref a_rows, .ref a_told, .int v_signs, .ref a_sign, .int v_many, .ref a_kept, .ref a_ended, .ref a_cell, .ref a_loss, .long v_left, .long v_rime, .long v_frost, .int v_began, .int v_last, .int v_rounds, .ref a_read, .ref a_times, .ref a_gains, .int v_seed, .ref a_image, .ref a_isKept])), (a_sign, .inl (cI, 60, .inl v_sign))] := hD
                refine lv_if_lt (tgt := 106) hx hb dX7_faultOf_97 (by decide) (fun c97 => ?_) (fun c97 => ?_)
                · refine lv_iload_n hx hb dX7_faultOf_106 rfl (lv_at hl 4 rfl) ?_
                  refine lv_iconst (v := 3) hx hb dX7_faultOf_107 (by decide) ?_
                  refine lv_icmp_ne (tgt := 123) hx hb dX7_faultOf_108 (by decide) (fun c108 => ?_) (fun c108 => ?_)
                  · exact C123 x6_l2 ((-6) : Int32) (by simp only [X7_faultOf_m123_l2, if_neg c11, if_pos c35, if_pos c66, if_neg c73, if_pos c84, if_pos c97, if_neg c108]) (by simp only [X7_faultOf_m123_l5, if_neg c11, if_pos c35, if_pos c66, if_neg c73, if_pos c84, if_pos c97, if_neg c108]) _ _ hP hD hS ls (lv_sub hl [3, 5, 6, 1] rfl)
                  · refine lv_iload hx hb dX7_faultOf_111 (lv_at hl 2 rfl) ?_
                    refine lv_bipush (v := 59) hx hb dX7_faultOf_113 (by decide) ?_
                    refine lv_icmp_ne (tgt := 123) hx hb dX7_faultOf_115 (by decide) (fun c115 => ?_) (fun c115 => ?_)
                    · exact C123 x6_l2 ((-6) : Int32) (by simp only [X7_faultOf_m123_l2, if_neg c11, if_pos c35, if_pos c66, if_neg c73, if_pos c84, if_pos c97, if_pos c108, if_neg c115]) (by simp only [X7_faultOf_m123_l5, if_neg c11, if_pos c35, if_pos c66, if_neg c73, if_pos c84, if_pos c97, if_pos c108, if_neg c115]) _ _ hP hD hS ls (lv_sub hl [3, 5, 6, 1] rfl)
                    · refine lv_iconst (v := 0) hx hb dX7_faultOf_118 (by decide) ?_
                      refine lv_istore_n (lv' := [(2, .int (0 : Int32)), (6, .int (X7_letter (v_sign j6))), (5, .int ((-6) : Int32)), (4, .int (v_sign j6)), (0, .ref a_this), (1, .int x6_l1), (3, .int (nI j6))]) hx hb dX7_faultOf_119 rfl hl (by decide) rfl (fun ls hl => ?_)
                      refine lv_iconst (v := 0) hx hb dX7_faultOf_120 (by decide) ?_
                      refine lv_istore (lv' := [(5, .int (0 : Int32)), (2, .int (0 : Int32)), (6, .int (X7_letter (v_sign j6))), (4, .int (v_sign j6)), (0, .ref a_this), (1, .int x6_l1), (3, .int (nI j6))]) hx hb dX7_faultOf_121 hl (by decide) rfl (fun ls hl => ?_)
                      exact C123 (0 : Int32) (0 : Int32) (by simp only [X7_faultOf_m123_l2, if_neg c11, if_pos c35, if_pos c66, if_neg c73, if_pos c84, if_pos c97, if_pos c108, if_pos c115]) (by simp only [X7_faultOf_m123_l5, if_neg c11, if_pos c35, if_pos c66, if_neg c73, if_pos c84, if_pos c97, if_pos c108, if_pos c115]) _ _ hP hD hS ls (lv_sub hl [4, 1, 6, 0] rfl)
                · refine lv_iconst (v := 3) hx hb dX7_faultOf_100 (by decide) ?_
                  refine lv_istore (lv' := [(5, .int (3 : Int32)), (6, .int (X7_letter (v_sign j6))), (4, .int (v_sign j6)), (0, .ref a_this), (1, .int x6_l1), (2, .int x6_l2), (3, .int (nI j6))]) hx hb dX7_faultOf_101 hl (by decide) rfl (fun ls hl => ?_)
                  refine lv_goto (tgt := 123) hx hb dX7_faultOf_103 (by decide) ?_
                  exact C123 x6_l2 (3 : Int32) (by simp only [X7_faultOf_m123_l2, if_neg c11, if_pos c35, if_pos c66, if_neg c73, if_pos c84, if_neg c97]) (by simp only [X7_faultOf_m123_l5, if_neg c11, if_pos c35, if_pos c66, if_neg c73, if_pos c84, if_neg c97]) _ _ hP hD hS ls (lv_sub hl [3, 5, 6, 0] rfl)
              · refine lv_iload_n hx hb dX7_faultOf_87 rfl (lv_at hl 4 rfl) ?_
                refine lv_iconst (v := 2) hx hb dX7_faultOf_88 (by decide) ?_
                refine lv_icmp_ne (tgt := 106) hx hb dX7_faultOf_89 (by decide) (fun c89 => ?_) (fun c89 => ?_)
                · refine lv_iload_n hx hb dX7_faultOf_106 rfl (lv_at hl 4 rfl) ?_
                  refine lv_iconst (v := 3) hx hb dX7_faultOf_107 (by decide) ?_
                  refine lv_icmp_ne (tgt := 123) hx hb dX7_faultOf_108 (by decide) (fun c108 => ?_) (fun c108 => ?_)
                  · exact C123 x6_l2 ((-6) : Int32) (by simp only [X7_faultOf_m123_l2, if_neg c11, if_pos c35, if_pos c66, if_neg c73, if_neg c84, if_neg c89, if_neg c108]) (by simp only [X7_faultOf_m123_l5, if_neg c11, if_pos c35, if_pos c66, if_neg c73, if_neg c84, if_neg c89, if_neg c108]) _ _ hP hD hS ls (lv_sub hl [3, 5, 6, 1] rfl)
                  · refine lv_iload hx hb dX7_faultOf_111 (lv_at hl 2 rfl) ?_
                    refine lv_bipush (v := 59) hx hb dX7_faultOf_113 (by decide) ?_
                    refine lv_icmp_ne (tgt := 123) hx hb dX7_faultOf_115 (by decide) (fun c115 => ?_) (fun c115 => ?_)
                    · exact C123 x6_l2 ((-6) : Int32) (by simp only [X7_faultOf_m123_l2, if_neg c11, if_pos c35, if_pos c66, if_neg c73, if_neg c84, if_neg c89, if_pos c108, if_neg c115]) (by simp only [X7_faultOf_m123_l5, if_neg c11, if_pos c35, if_pos c66, if_neg c73, if_neg c84, if_neg c89, if_pos c108, if_neg c115]) _ _ hP hD hS ls (lv_sub hl [3, 5, 6, 1] rfl)
                    · refine lv_iconst (v := 0) hx hb dX7_faultOf_118 (by decide) ?_
                      refine lv_istore_n (lv' := [(2, .int (0 : Int32)), (6, .int (X7_letter (v_sign j6))), (5, .int ((-6) : Int32)), (4, .int (v_sign j6)), (0, .ref a_this), (1, .int x6_l1), (3, .int (nI j6))]) hx hb dX7_faultOf_119 rfl hl (by decide) rfl (fun ls hl => ?_)
                      refine lv_iconst (v := 0) hx hb dX7_faultOf_120 (by decide) ?_
                      refine lv_istore (lv' := [(5, .int (0 : Int32)), (2, .int (0 : Int32)), (6, .int (X7_letter (v_sign j6))), (4, .int (v_sign j6)), (0, .ref a_this), (1, .int x6_l1), (3, .int (nI j6))]) hx hb dX7_faultOf_121 hl (by decide) rfl (fun ls hl => ?_)
                      exact C123 (0 : Int32) (0 : Int32) (by simp only [X7_faultOf_m123_l2, if_neg c11, if_pos c35, if_pos c66, if_neg c73, if_neg c84, if_neg c89, if_pos c108, if_pos c115]) (by simp only [X7_faultOf_m123_l5, if_neg c11, if_pos c35, if_pos c66, if_neg c73, if_neg c84, if_neg c89, if_pos c108, if_pos c115]) _ _ hP hD hS ls (lv_sub hl [4, 1, 6, 0] rfl)
                · refine lv_iload hx hb dX7_faultOf_92 (lv_at hl 2 rfl) ?_
                  refine fx_callSI (As := [.int (v_sign j6)]) (rest := []) (wr := [(a_this, .inr (7, [.ref a_start, .ref a_mass, .ref a_rows, .ref a_told, .int v_signs, .ref a_sign, .int v_many, .ref a_kept, .ref a_ended, .ref a_cell, .ref a_loss, .long v_left, .long v_rime, .long v_frost, .int v_began, .int v_last, .int v_rounds, .ref a_read, .ref a_times, .ref a_gains, .int v_seed, .ref a_image, .ref a_isKept])), (a_sign, .inl (cI, 60, .inl v_sign))]) ⟨hx, hb, hml, hown, hts⟩ hG hGs (k_X7_end l G hG D cI cJ cZ cH (v_sign j6)  ) (va_cwS 1 hts gX7_faultOf_X7_end rfl rfl rfl (by decide +kernel) ⟨by decide, by decide⟩) hK hP hD hS hA [] [0, 1] rfl rfl (by decide) (by decide) (by decide) rfl rfl hl.1 (Nat.le_of_ble_eq_true rfl) dX7_faultOf_94 (Nat.zero_le _) (Nat.zero_le _) (fun H locs hP hD hS => ?_)
                  have hP : va_P D vwCl [(a_this, .inr (7, [.ref a_start, .ref a_mass, .ref a_rows, .ref a_told, .int v_signs, .ref a_sign, .int v_many, .ref a_kept, .ref a_ended, .ref a_cell, .ref a_loss, .long v_left, .long v_rime, .long v_frost, .int v_began, .int v_last, .int v_rounds, .ref a_read, .ref a_times, .ref a_gains, .int v_seed, .ref a_image, .ref a_isKept])), (a_sign, .inl (cI, 60, .inl v_sign))] H := hP
                  have hD : va_D A [(a_this, .inr (7, [.ref a_start, .ref a_mass, .ref a_rows, .ref a_told, .int v_signs, .ref a_sign, .int v_many, .ref a_kept, .ref a_ended, .ref a_cell, .ref a_loss, .long v_left, .long v_rime, .long v_frost, .int v_began, .int v_last, .int v_rounds, .ref a_read, .ref a_times, .ref a_gains, .int v_seed, .ref a_image, .ref a_isKept])), (a_sign, .inl (cI, 60, .inl v_sign))] := hD
                  refine lv_if_lt (tgt := 106) hx hb dX7_faultOf_97 (by decide) (fun c97 => ?_) (fun c97 => ?_)
                  · refine lv_iload_n hx hb dX7_faultOf_106 rfl (lv_at hl 4 rfl) ?_
                    refine lv_iconst (v := 3) hx hb dX7_faultOf_107 (by decide) ?_
                    refine lv_icmp_ne (tgt := 123) hx hb dX7_faultOf_108 (by decide) (fun c108 => ?_) (fun c108 => ?_)
                    · exact C123 x6_l2 ((-6) : Int32) (by simp only [X7_faultOf_m123_l2, if_neg c11, if_pos c35, if_pos c66, if_neg c73, if_neg c84, if_pos c89, if_pos c97, if_neg c108]) (by simp only [X7_faultOf_m123_l5, if_neg c11, if_pos c35, if_pos c66, if_neg c73, if_neg c84, if_pos c89, if_pos c97, if_neg c108]) _ _ hP hD hS ls (lv_sub hl [3, 5, 6, 1] rfl)
                    · refine lv_iload hx hb dX7_faultOf_111 (lv_at hl 2 rfl) ?_
                      refine lv_bipush (v := 59) hx hb dX7_faultOf_113 (by decide) ?_
                      refine lv_icmp_ne (tgt := 123) hx hb dX7_faultOf_115 (by decide) (fun c115 => ?_) (fun c115 => ?_)
                      · exact C123 x6_l2 ((-6) : Int32) (by simp only [X7_faultOf_m123_l2, if_neg c11, if_pos c35, if_pos c66, if_neg c73, if_neg c84, if_pos c89, if_pos c97, if_pos c108, if_neg c115]) (by simp only [X7_faultOf_m123_l5, if_neg c11, if_pos c35, if_pos c66, if_neg c73, if_neg c84, if_pos c89, if_pos c97, if_pos c108, if_neg c115]) _ _ hP hD hS ls (lv_sub hl [3, 5, 6, 1] rfl)
                      · refine lv_iconst (v := 0) hx hb dX7_faultOf_118 (by decide) ?_
                        refine lv_istore_n (lv' := [(2, .int (0 : Int32)), (6, .int (X7_letter (v_sign j6))), (5, .int ((-6) : Int32)), (4, .int (v_sign j6)), (0, .ref a_this), (1, .int x6_l1), (3, .int (nI j6))]) hx hb dX7_faultOf_119 rfl hl (by decide) rfl (fun ls hl => ?_)
                        refine lv_iconst (v := 0) hx hb dX7_faultOf_120 (by decide) ?_
                        refine lv_istore (lv' := [(5, .int (0 : Int32)), (2, .int (0 : Int32)), (6, .int (X7_letter (v_sign j6))), (4, .int (v_sign j6)), (0, .ref a_this), (1, .int x6_l1), (3, .int (nI j6))]) hx hb dX7_faultOf_121 hl (by decide) rfl (fun ls hl => ?_)
                        exact C123 (0 : Int32) (0 : Int32) (by simp only [X7_faultOf_m123_l2, if_neg c11, if_pos c35, if_pos c66, if_neg c73, if_neg c84, if_pos c89, if_pos c97, if_pos c108, if_pos c115]) (by simp only [X7_faultOf_m123_l5, if_neg c11, if_pos c35, if_pos c66, if_neg c73, if_neg c84, if_pos c89, if_pos c97, if_pos c108, if_pos c115]) _ _ hP hD hS ls (lv_sub hl [4, 1, 6, 0] rfl)
                  · refine lv_iconst (v := 3) hx hb dX7_faultOf_100 (by decide) ?_
                    refine lv_istore (lv' := [(5, .int (3 : Int32)), (6, .int (X7_letter (v_sign j6))), (4, .int (v_sign j6)), (0, .ref a_this), (1, .int x6_l1), (2, .int x6_l2), (3, .int (nI j6))]) hx hb dX7_faultOf_101 hl (by decide) rfl (fun ls hl => ?_)
                    refine lv_goto (tgt := 123) hx hb dX7_faultOf_103 (by decide) ?_
                    exact C123 x6_l2 (3 : Int32) (by simp only [X7_faultOf_m123_l2, if_neg c11, if_pos c35, if_pos c66, if_neg c73, if_neg c84, if_pos c89, if_neg c97]) (by simp only [X7_faultOf_m123_l5, if_neg c11, if_pos c35, if_pos c66, if_neg c73, if_neg c84, if_pos c89, if_neg c97]) _ _ hP hD hS ls (lv_sub hl [3, 5, 6, 0] rfl)
            · refine lv_iconst (v := 2) hx hb dX7_faultOf_76 (by decide) ?_
              refine lv_istore (lv' := [(5, .int (2 : Int32)), (6, .int (X7_letter (v_sign j6))), (4, .int (v_sign j6)), (0, .ref a_this), (1, .int x6_l1), (2, .int x6_l2), (3, .int (nI j6))]) hx hb dX7_faultOf_77 hl (by decide) rfl (fun ls hl => ?_)
              refine lv_goto (tgt := 123) hx hb dX7_faultOf_79 (by decide) ?_
              exact C123 x6_l2 (2 : Int32) (by simp only [X7_faultOf_m123_l2, if_neg c11, if_pos c35, if_pos c66, if_pos c73]) (by simp only [X7_faultOf_m123_l5, if_neg c11, if_pos c35, if_pos c66, if_pos c73]) _ _ hP hD hS ls (lv_sub hl [3, 5, 6, 0] rfl)
        · refine lv_iload hx hb dX7_faultOf_38 (lv_at hl 0 rfl) ?_
          refine lv_if_lt (tgt := 65) hx hb dX7_faultOf_40 (by decide) (fun c40 => ?_) (fun c40 => ?_)
          · refine lv_iload_n hx hb dX7_faultOf_65 rfl (lv_at hl 4 rfl) ?_
            refine lv_if_ne (tgt := 82) hx hb dX7_faultOf_66 (by decide) (fun c66 => ?_) (fun c66 => ?_)
            · refine lv_iload_n hx hb dX7_faultOf_82 rfl (lv_at hl 4 rfl) ?_
              refine lv_iconst (v := 1) hx hb dX7_faultOf_83 (by decide) ?_
              refine lv_icmp_eq (tgt := 92) hx hb dX7_faultOf_84 (by decide) (fun c84 => ?_) (fun c84 => ?_)
              · refine lv_iload hx hb dX7_faultOf_92 (lv_at hl 2 rfl) ?_
                refine fx_callSI (As := [.int (v_sign j6)]) (rest := []) (wr := [(a_this, .inr (7, [.ref a_start, .ref a_mass, .ref a_rows, .ref a_told, .int v_signs, .ref a_sign, .int v_many, .ref a_kept, .ref a_ended, .ref a_cell, .ref a_loss, .long v_left, .long v_rime, .long v_frost, .int v_began, .int v_last, .int v_rounds, .ref a_read, .ref a_times, .ref a_gains, .int v_seed, .ref a_image, .ref a_isKept])), (a_sign, .inl (cI, 60, .inl v_sign))]) ⟨hx, hb, hml, hown, hts⟩ hG hGs (k_X7_end l G hG D cI cJ cZ cH (v_sign j6)  ) (va_cwS 1 hts gX7_faultOf_X7_end rfl rfl rfl (by decide +kernel) ⟨by decide, by decide⟩) hK hP hD hS hA [] [0, 1] rfl rfl (by decide) (by decide) (by decide) rfl rfl hl.1 (Nat.le_of_ble_eq_true rfl) dX7_faultOf_94 (Nat.zero_le _) (Nat.zero_le _) (fun H locs hP hD hS => ?_)
                have hP : va_P D vwCl [(a_this, .inr (7, [.ref a_start, .ref a_mass, .ref a_rows, .ref a_told, .int v_signs, .ref a_sign, .int v_many, .ref a_kept, .ref a_ended, .ref a_cell, .ref a_loss, .long v_left, .long v_rime, .long v_frost, .int v_began, .int v_last, .int v_rounds, .ref a_read, .ref a_times, .ref a_gains, .int v_seed, .ref a_image, .ref a_isKept])), (a_sign, .inl (cI, 60, .inl v_sign))] H := hP
                have hD : va_D A [(a_this, .inr (7, [.ref a_start, .ref a_mass, .ref a_rows, .ref a_told, .int v_signs, .ref a_sign, .int v_many, .ref a_kept, .ref a_ended, .ref a_cell, .ref a_loss, .long v_left, .long v_rime, .long v_frost, .int v_began, .int v_last, .int v_rounds, .ref a_read, .ref a_times, .ref a_gains, .int v_seed, .ref a_image, .ref a_isKept])), (a_sign, .inl (cI, 60, .inl v_sign))] := hD
                refine lv_if_lt (tgt := 106) hx hb dX7_faultOf_97 (by decide) (fun c97 => ?_) (fun c97 => ?_)
                · refine lv_iload_n hx hb dX7_faultOf_106 rfl (lv_at hl 4 rfl) ?_
                  refine lv_iconst (v := 3) hx hb dX7_faultOf_107 (by decide) ?_
                  refine lv_icmp_ne (tgt := 123) hx hb dX7_faultOf_108 (by decide) (fun c108 => ?_) (fun c108 => ?_)
                  · exact C123 x6_l2 ((-6) : Int32) (by simp only [X7_faultOf_m123_l2, if_neg c11, if_neg c35, if_pos c40, if_neg c66, if_pos c84, if_pos c97, if_neg c108]) (by simp only [X7_faultOf_m123_l5, if_neg c11, if_neg c35, if_pos c40, if_neg c66, if_pos c84, if_pos c97, if_neg c108]) _ _ hP hD hS ls (lv_sub hl [3, 5, 6, 1] rfl)
                  · refine lv_iload hx hb dX7_faultOf_111 (lv_at hl 2 rfl) ?_
                    refine lv_bipush (v := 59) hx hb dX7_faultOf_113 (by decide) ?_
                    refine lv_icmp_ne (tgt := 123) hx hb dX7_faultOf_115 (by decide) (fun c115 => ?_) (fun c115 => ?_)
                    · exact C123 x6_l2 ((-6) : Int32) (by simp only [X7_faultOf_m123_l2, if_neg c11, if_neg c35, if_pos c40, if_neg c66, if_pos c84, if_pos c97, if_pos c108, if_neg c115]) (by simp only [X7_faultOf_m123_l5, if_neg c11, if_neg c35, if_pos c40, if_neg c66, if_pos c84, if_pos c97, if_pos c108, if_neg c115]) _ _ hP hD hS ls (lv_sub hl [3, 5, 6, 1] rfl)
                    · refine lv_iconst (v := 0) hx hb dX7_faultOf_118 (by decide) ?_
                      refine lv_istore_n (lv' := [(2, .int (0 : Int32)), (6, .int (X7_letter (v_sign j6))), (5, .int ((-6) : Int32)), (4, .int (v_sign j6)), (0, .ref a_this), (1, .int x6_l1), (3, .int (nI j6))]) hx hb dX7_faultOf_119 rfl hl (by decide) rfl (fun ls hl => ?_)
                      refine lv_iconst (v := 0) hx hb dX7_faultOf_120 (by decide) ?_
                      refine lv_istore (lv' := [(5, .int (0 : Int32)), (2, .int (0 : Int32)), (6, .int (X7_letter (v_sign j6))), (4, .int (v_sign j6)), (0, .ref a_this), (1, .int x6_l1), (3, .int (nI j6))]) hx hb dX7_faultOf_121 hl (by decide) rfl (fun ls hl => ?_)
                      exact C123 (0 : Int32) (0 : Int32) (by simp only [X7_faultOf_m123_l2, if_neg c11, if_neg c35, if_pos c40, if_neg c66, if_pos c84, if_pos c97, if_pos c108, if_pos c115]) (by simp only [X7_faultOf_m123_l5, if_neg c11, if_neg c35, if_pos c40, if_neg c66, if_pos c84, if_pos c97, if_pos c108, if_pos c115]) _ _ hP hD hS ls (lv_sub hl [4, 1, 6, 0] rfl)
                · refine lv_iconst (v := 3) hx hb dX7_faultOf_100 (by decide) ?_
                  refine lv_istore (lv' := [(5, .int (3 : Int32)), (6, .int (X7_letter (v_sign j6))), (4, .int (v_sign j6)), (0, .ref a_this), (1, .int x6_l1), (2, .int x6_l2), (3, .int (nI j6))]) hx hb dX7_faultOf_101 hl (by decide) rfl (fun ls hl => ?_)
                  refine lv_goto (tgt := 123) hx hb dX7_faultOf_103 (by decide) ?_
                  exact C123 x6_l2 (3 : Int32) (by simp only [X7_faultOf_m123_l2, if_neg c11, if_neg c35, if_pos c40, if_neg c66, if_pos c84, if_neg c97]) (by simp only [X7_faultOf_m123_l5, if_neg c11, if_neg c35, if_pos c40, if_neg c66, if_pos c84, if_neg c97]) _ _ hP hD hS ls (lv_sub hl [3, 5, 6, 0] rfl)
              · refine lv_iload_n hx hb dX7_faultOf_87 rfl (lv_at hl 4 rfl) ?_
                refine lv_iconst (v := 2) hx hb dX7_faultOf_88 (by decide) ?_
                refine lv_icmp_ne (tgt := 106) hx hb dX7_faultOf_89 (by decide) (fun c89 => ?_) (fun c89 => ?_)
                · refine lv_iload_n hx hb dX7_faultOf_106 rfl (lv_at hl 4 rfl) ?_
                  refine lv_iconst (v := 3) hx hb dX7_faultOf_107 (by decide) ?_
                  refine lv_icmp_ne (tgt := 123) hx hb dX7_faultOf_108 (by decide) (fun c108 => ?_) (fun c108 => ?_)
                  · exact C123 x6_l2 ((-6) : Int32) (by simp only [X7_faultOf_m123_l2, if_neg c11, if_neg c35, if_pos c40, if_neg c66, if_neg c84, if_neg c89, if_neg c108]) (by simp only [X7_faultOf_m123_l5, if_neg c11, if_neg c35, if_pos c40, if_neg c66, if_neg c84, if_neg c89, if_neg c108]) _ _ hP hD hS ls (lv_sub hl [3, 5, 6, 1] rfl)
                  · refine lv_iload hx hb dX7_faultOf_111 (lv_at hl 2 rfl) ?_
                    refine lv_bipush (v := 59) hx hb dX7_faultOf_113 (by decide) ?_
                    refine lv_icmp_ne (tgt := 123) hx hb dX7_faultOf_115 (by decide) (fun c115 => ?_) (fun c115 => ?_)
                    · exact C123 x6_l2 ((-6) : Int32) (by simp only [X7_faultOf_m123_l2, if_neg c11, if_neg c35, if_pos c40, if_neg c66, if_neg c84, if_neg c89, if_pos c108, if_neg c115]) (by simp only [X7_faultOf_m123_l5, if_neg c11, if_neg c35, if_pos c40, if_neg c66, if_neg c84, if_neg c89, if_pos c108, if_neg c115]) _ _ hP hD hS ls (lv_sub hl [3, 5, 6, 1] rfl)
                    · refine lv_iconst (v := 0) hx hb dX7_faultOf_118 (by decide) ?_
                      refine lv_istore_n (lv' := [(2, .int (0 : Int32)), (6, .int (X7_letter (v_sign j6))), (5, .int ((-6) : Int32)), (4, .int (v_sign j6)), (0, .ref a_this), (1, .int x6_l1), (3, .int (nI j6))]) hx hb dX7_faultOf_119 rfl hl (by decide) rfl (fun ls hl => ?_)
                      refine lv_iconst (v := 0) hx hb dX7_faultOf_120 (by decide) ?_
                      refine lv_istore (lv' := [(5, .int (0 : Int32)), (2, .int (0 : Int32)), (6, .int (X7_letter (v_sign j6))), (4, .int (v_sign j6)), (0, .ref a_this), (1, .int x6_l1), (3, .int (nI j6))]) hx hb dX7_faultOf_121 hl (by decide) rfl (fun ls hl => ?_)
                      exact C123 (0 : Int32) (0 : Int32) (by simp only [X7_faultOf_m123_l2, if_neg c11, if_neg c35, if_pos c40, if_neg c66, if_neg c84, if_neg c89, if_pos c108, if_pos c115]) (by simp only [X7_faultOf_m123_l5, if_neg c11, if_neg c35, if_pos c40, if_neg c66, if_neg c84, if_neg c89, if_pos c108, if_pos c115]) _ _ hP hD hS ls (lv_sub hl [4, 1, 6, 0] rfl)
                · refine lv_iload hx hb dX7_faultOf_92 (lv_at hl 2 rfl) ?_
                  refine fx_callSI (As := [.int (v_sign j6)]) (rest := []) (wr := [(a_this, .inr (7, [.ref a_start, .ref a_mass, .ref a_rows, .ref a_told, .int v_signs, .ref a_sign, .int v_many, .ref a_kept, .ref a_ended, .ref a_cell, .ref a_loss, .long v_left, .long v_rime, .long v_frost, .int v_began, .int v_last, .int v_rounds, .ref a_read, .ref a_times, .ref a_gains, .int v_seed, .ref a_image, .ref a_isKept])), (a_sign, .inl (cI, 60, .inl v_sign))]) ⟨hx, hb, hml, hown, hts⟩ hG hGs (k_X7_end l G hG D cI cJ cZ cH (v_sign j6)  ) (va_cwS 1 hts gX7_faultOf_X7_end rfl rfl rfl (by decide +kernel) ⟨by decide, by decide⟩) hK hP hD hS hA [] [0, 1] rfl rfl (by decide) (by decide) (by decide) rfl rfl hl.1 (Nat.le_of_ble_eq_true rfl) dX7_faultOf_94 (Nat.zero_le _) (Nat.zero_le _) (fun H locs hP hD hS => ?_)
                  have hP : va_P D vwCl [(a_this, .inr (7, [.ref a_start, .ref a_mass, .ref a_rows, .ref a_told, .int v_signs, .ref a_sign, .int v_many, .ref a_kept, .ref a_ended, .ref a_cell, .ref a_loss, .long v_left, .long v_rime, .long v_frost, .int v_began, .int v_last, .int v_rounds, .ref a_read, .ref a_times, .ref a_gains, .int v_seed, .ref a_image, .ref a_isKept])), (a_sign, .inl (cI, 60, .inl v_sign))] H := hP
                  have hD : va_D A [(a_this, .inr (7, [.ref a_start, .ref a_mass, .ref a_rows, .ref a_told, .int v_signs, .ref a_sign, .int v_many, .ref a_kept, .ref a_ended, .ref a_cell, .ref a_loss, .long v_left, .long v_rime, .long v_frost, .int v_began, .int v_last, .int v_rounds, .ref a_read, .ref a_times, .ref a_gains, .int v_seed, .ref a_image, .ref a_isKept])), (a_sign, .inl (cI, 60, .inl v_sign))] := hD
                  refine lv_if_lt (tgt := 106) hx hb dX7_faultOf_97 (by decide) (fun c97 => ?_) (fun c97 => ?_)
                  · refine lv_iload_n hx hb dX7_faultOf_106 rfl (lv_at hl 4 rfl) ?_
                    refine lv_iconst (v := 3) hx hb dX7_faultOf_107 (by decide) ?_
                    refine lv_icmp_ne (tgt := 123) hx hb dX7_faultOf_108 (by decide) (fun c108 => ?_) (fun c108 => ?_)
                    · exact C123 x6_l2 ((-6) : Int32) (by simp only [X7_faultOf_m123_l2, if_neg c11, if_neg c35, if_pos c40, if_neg c66, if_neg c84, if_pos c89, if_pos c97, if_neg c108]) (by simp only [X7_faultOf_m123_l5, if_neg c11, if_neg c35, if_pos c40, if_neg c66, if_neg c84, if_pos c89, if_pos c97, if_neg c108]) _ _ hP hD hS ls (lv_sub hl [3, 5, 6, 1] rfl)
                    · refine lv_iload hx hb dX7_faultOf_111 (lv_at hl 2 rfl) ?_
                      refine lv_bipush (v := 59) hx hb dX7_faultOf_113 (by decide) ?_
                      refine lv_icmp_ne (tgt := 123) hx hb dX7_faultOf_115 (by decide) (fun c115 => ?_) (fun c115 => ?_)
                      · exact C123 x6_l2 ((-6) : Int32) (by simp only [X7_faultOf_m123_l2, if_neg c11, if_neg c35, if_pos c40, if_neg c66, if_neg c84, if_pos c89, if_pos c97, if_pos c108, if_neg c115]) (by simp only [X7_faultOf_m123_l5, if_neg c11, if_neg c35, if_pos c40, if_neg c66, if_neg c84, if_pos c89, if_pos c97, if_pos c108, if_neg c115]) _ _ hP hD hS ls (lv_sub hl [3, 5, 6, 1] rfl)
                      · refine lv_iconst (v := 0) hx hb dX7_faultOf_118 (by decide) ?_
                        refine lv_istore_n (lv' := [(2, .int (0 : Int32)), (6, .int (X7_letter (v_sign j6))), (5, .int ((-6) : Int32)), (4, .int (v_sign j6)), (0, .ref a_this), (1, .int x6_l1), (3, .int (nI j6))]) hx hb dX7_faultOf_119 rfl hl (by decide) rfl (fun ls hl => ?_)
                        refine lv_iconst (v := 0) hx hb dX7_faultOf_120 (by decide) ?_
                        refine lv_istore (lv' := [(5, .int (0 : Int32)), (2, .int (0 : Int32)), (6, .int (X7_letter (v_sign j6))), (4, .int (v_sign j6)), (0, .ref a_this), (1, .int x6_l1), (3, .int (nI j6))]) hx hb dX7_faultOf_121 hl (by decide) rfl (fun ls hl => ?_)
                        exact C123 (0 : Int32) (0 : Int32) (by simp only [X7_faultOf_m123_l2, if_neg c11, if_neg c35, if_pos c40, if_neg c66, if_neg c84, if_pos c89, if_pos c97, if_pos c108, if_pos c115]) (by simp only [X7_faultOf_m123_l5, if_neg c11, if_neg c35, if_pos c40, if_neg c66, if_neg c84, if_pos c89, if_pos c97, if_pos c108, if_pos c115]) _ _ hP hD hS ls (lv_sub hl [4, 1, 6, 0] rfl)
                  · refine lv_iconst (v := 3) hx hb dX7_faultOf_100 (by decide) ?_
                    refine lv_istore (lv' := [(5, .int (3 : Int32)), (6, .int (X7_letter (v_sign j6))), (4, .int (v_sign j6)), (0, .ref a_this), (1, .int x6_l1), (2, .int x6_l2), (3, .int (nI j6))]) hx hb dX7_faultOf_101 hl (by decide) rfl (fun ls hl => ?_)
                    refine lv_goto (tgt := 123) hx hb dX7_faultOf_103 (by decide) ?_
                    exact C123 x6_l2 (3 : Int32) (by simp only [X7_faultOf_m123_l2, if_neg c11, if_neg c35, if_pos c40, if_neg c66, if_neg c84, if_pos c89, if_neg c97]) (by simp only [X7_faultOf_m123_l5, if_neg c11, if_neg c35, if_pos c40, if_neg c66, if_neg c84, if_pos c89, if_neg c97]) _ _ hP hD hS ls (lv_sub hl [3, 5, 6, 0] rfl)
            · refine lv_iload hx hb dX7_faultOf_69 (lv_at hl 2 rfl) ?_
              refine lv_bipush (v := 45) hx hb dX7_faultOf_71 (by decide) ?_
              refine lv_icmp_ne (tgt := 82) hx hb dX7_faultOf_73 (by decide) (fun c73 => ?_) (fun c73 => ?_)
              · refine lv_iload_n hx hb dX7_faultOf_82 rfl (lv_at hl 4 rfl) ?_
                refine lv_iconst (v := 1) hx hb dX7_faultOf_83 (by decide) ?_
                refine lv_icmp_eq (tgt := 92) hx hb dX7_faultOf_84 (by decide) (fun c84 => ?_) (fun c84 => ?_)
                · refine lv_iload hx hb dX7_faultOf_92 (lv_at hl 2 rfl) ?_
                  refine fx_callSI (As := [.int (v_sign j6)]) (rest := []) (wr := [(a_this, .inr (7, [.ref a_start, .ref a_mass, .ref a_rows, .ref a_told, .int v_signs, .ref a_sign, .int v_many, .ref a_kept, .ref a_ended, .ref a_cell, .ref a_loss, .long v_left, .long v_rime, .long v_frost, .int v_began, .int v_last, .int v_rounds, .ref a_read, .ref a_times, .ref a_gains, .int v_seed, .ref a_image, .ref a_isKept])), (a_sign, .inl (cI, 60, .inl v_sign))]) ⟨hx, hb, hml, hown, hts⟩ hG hGs (k_X7_end l G hG D cI cJ cZ cH (v_sign j6)  ) (va_cwS 1 hts gX7_faultOf_X7_end rfl rfl rfl (by decide +kernel) ⟨by decide, by decide⟩) hK hP hD hS hA [] [0, 1] rfl rfl (by decide) (by decide) (by decide) rfl rfl hl.1 (Nat.le_of_ble_eq_true rfl) dX7_faultOf_94 (Nat.zero_le _) (Nat.zero_le _) (fun H locs hP hD hS => ?_)
                  have hP : va_P D vwCl [(a_this, .inr (7, [.ref a_start, .ref a_mass, .ref a_rows, .ref a_told, .int v_signs, .ref a_sign, .int v_many, .ref a_kept, .ref a_ended, .ref a_cell, .ref a_loss, .long v_left, .long v_rime, .long v_frost, .int v_began, .int v_last, .int v_rounds, .ref a_read, .ref a_times, .ref a_gains, .int v_seed, .ref a_image, .ref a_isKept])), (a_sign, .inl (cI, 60, .inl v_sign))] H := hP
                  have hD : va_D A [(a_this, .inr (7, [.ref a_start, .ref a_mass, .ref a_rows, .ref a_told, .int v_signs, .ref a_sign, .int v_many, .ref a_kept, .ref a_ended, .ref a_cell, .ref a_loss, .long v_left, .long v_rime, .long v_frost, .int v_began, .int v_last, .int v_rounds, .ref a_read, .ref a_times, .ref a_gains, .int v_seed, .ref a_image, .ref a_isKept])), (a_sign, .inl (cI, 60, .inl v_sign))] := hD
                  refine lv_if_lt (tgt := 106) hx hb dX7_faultOf_97 (by decide) (fun c97 => ?_) (fun c97 => ?_)
                  · refine lv_iload_n hx hb dX7_faultOf_106 rfl (lv_at hl 4 rfl) ?_
                    refine lv_iconst (v := 3) hx hb dX7_faultOf_107 (by decide) ?_
                    refine lv_icmp_ne (tgt := 123) hx hb dX7_faultOf_108 (by decide) (fun c108 => ?_) (fun c108 => ?_)
                    · exact C123 x6_l2 ((-6) : Int32) (by simp only [X7_faultOf_m123_l2, if_neg c11, if_neg c35, if_pos c40, if_pos c66, if_neg c73, if_pos c84, if_pos c97, if_neg c108]) (by simp only [X7_faultOf_m123_l5, if_neg c11, if_neg c35, if_pos c40, if_pos c66, if_neg c73, if_pos c84, if_pos c97, if_neg c108]) _ _ hP hD hS ls (lv_sub hl [3, 5, 6, 1] rfl)
                    · refine lv_iload hx hb dX7_faultOf_111 (lv_at hl 2 rfl) ?_
                      refine lv_bipush (v := 59) hx hb dX7_faultOf_113 (by decide) ?_
                      refine lv_icmp_ne (tgt := 123) hx hb dX7_faultOf_115 (by decide) (fun c115 => ?_) (fun c115 => ?_)
                      · exact C123 x6_l2 ((-6) : Int32) (by simp only [X7_faultOf_m123_l2, if_neg c11, if_neg c35, if_pos c40, if_pos c66, if_neg c73, if_pos c84, if_pos c97, if_pos c108, if_neg c115]) (by simp only [X7_faultOf_m123_l5, if_neg c11, if_neg c35, if_pos c40, if_pos c66, if_neg c73, if_pos c84, if_pos c97, if_pos c108, if_neg c115]) _ _ hP hD hS ls (lv_sub hl [3, 5, 6, 1] rfl)
                      · refine lv_iconst (v := 0) hx hb dX7_faultOf_118 (by decide) ?_
                        refine lv_istore_n (lv' := [(2, .int (0 : Int32)), (6, .int (X7_letter (v_sign j6))), (5, .int ((-6) : Int32)), (4, .int (v_sign j6)), (0, .ref a_this), (1, .int x6_l1), (3, .int (nI j6))]) hx hb dX7_faultOf_119 rfl hl (by decide) rfl (fun ls hl => ?_)
                        refine lv_iconst (v := 0) hx hb dX7_faultOf_120 (by decide) ?_
                        refine lv_istore (lv' := [(5, .int (0 : Int32)), (2, .int (0 : Int32)), (6, .int (X7_letter (v_sign j6))), (4, .int (v_sign j6)), (0, .ref a_this), (1, .int x6_l1), (3, .int (nI j6))]) hx hb dX7_faultOf_121 hl (by decide) rfl (fun ls hl => ?_)
                        exact C123 (0 : Int32) (0 : Int32) (by simp only [X7_faultOf_m123_l2, if_neg c11, if_neg c35, if_pos c40, if_pos c66, if_neg c73, if_pos c84, if_pos c97, if_pos c108, if_pos c115]) (by simp only [X7_faultOf_m123_l5, if_neg c11, if_neg c35, if_pos c40, if_pos c66, if_neg c73, if_pos c84, if_pos c97, if_pos c108, if_pos c115]) _ _ hP hD hS ls (lv_sub hl [4, 1, 6, 0] rfl)
                  · refine lv_iconst (v := 3) hx hb dX7_faultOf_100 (by decide) ?_
                    refine lv_istore (lv' := [(5, .int (3 : Int32)), (6, .int (X7_letter (v_sign j6))), (4, .int (v_sign j6)), (0, .ref a_this), (1, .int x6_l1), (2, .int x6_l2), (3, .int (nI j6))]) hx hb dX7_faultOf_101 hl (by decide) rfl (fun ls hl => ?_)
                    refine lv_goto (tgt := 123) hx hb dX7_faultOf_103 (by decide) ?_
                    exact C123 x6_l2 (3 : Int32) (by simp only [X7_faultOf_m123_l2, if_neg c11, if_neg c35, if_pos c40, if_pos c66, if_neg c73, if_pos c84, if_neg c97]) (by simp only [X7_faultOf_m123_l5, if_neg c11, if_neg c35, if_pos c40, if_pos c66, if_neg c73, if_pos c84, if_neg c97]) _ _ hP hD hS ls (lv_sub hl [3, 5, 6, 0] rfl)
                · refine lv_iload_n hx hb dX7_faultOf_87 rfl (lv_at hl 4 rfl) ?_
                  refine lv_iconst (v := 2) hx hb dX7_faultOf_88 (by decide) ?_
                  refine lv_icmp_ne (tgt := 106) hx hb dX7_faultOf_89 (by decide) (fun c89 => ?_) (fun c89 => ?_)
                  · refine lv_iload_n hx hb dX7_faultOf_106 rfl (lv_at hl 4 rfl) ?_
                    refine lv_iconst (v := 3) hx hb dX7_faultOf_107 (by decide) ?_
                    refine lv_icmp_ne (tgt := 123) hx hb dX7_faultOf_108 (by decide) (fun c108 => ?_) (fun c108 => ?_)
                    · exact C123 x6_l2 ((-6) : Int32) (by simp only [X7_faultOf_m123_l2, if_neg c11, if_neg c35, if_pos c40, if_pos c66, if_neg c73, if_neg c84, if_neg c89, if_neg c108]) (by simp only [X7_faultOf_m123_l5, if_neg c11, if_neg c35, if_pos c40, if_pos c66, if_neg c73, if_neg c84, if_neg c89, if_neg c108]) _ _ hP hD hS ls (lv_sub hl [3, 5, 6, 1] rfl)
                    · refine lv_iload hx hb dX7_faultOf_111 (lv_at hl 2 rfl) ?_
                      refine lv_bipush (v := 59) hx hb dX7_faultOf_113 (by decide) ?_
                      refine lv_icmp_ne (tgt := 123) hx hb dX7_faultOf_115 (by decide) (fun c115 => ?_) (fun c115 => ?_)
                      · exact C123 x6_l2 ((-6) : Int32) (by simp only [X7_faultOf_m123_l2, if_neg c11, if_neg c35, if_pos c40, if_pos c66, if_neg c73, if_neg c84, if_neg c89, if_pos c108, if_neg c115]) (by simp only [X7_faultOf_m123_l5, if_neg c11, if_neg c35, if_pos c40, if_pos c66, if_neg c73, if_neg c84, if_neg c89, if_pos c108, if_neg c115]) _ _ hP hD hS ls (lv_sub hl [3, 5, 6, 1] rfl)
                      · refine lv_iconst (v := 0) hx hb dX7_faultOf_118 (by decide) ?_
                        refine lv_istore_n (lv' := [(2, .int (0 : Int32)), (6, .int (X7_letter (v_sign j6))), (5, .int ((-6) : Int32)), (4, .int (v_sign j6)), (0, .ref a_this), (1, .int x6_l1), (3, .int (nI j6))]) hx hb dX7_faultOf_119 rfl hl (by decide) rfl (fun ls hl => ?_)
                        refine lv_iconst (v := 0) hx hb dX7_faultOf_120 (by decide) ?_
                        refine lv_istore (lv' := [(5, .int (0 : Int32)), (2, .int (0 : Int32)), (6, .int (X7_letter (v_sign j6))), (4, .int (v_sign j6)), (0, .ref a_this), (1, .int x6_l1), (3, .int (nI j6))]) hx hb dX7_faultOf_121 hl (by decide) rfl (fun ls hl => ?_)
                        exact C123 (0 : Int32) (0 : Int32) (by simp only [X7_faultOf_m123_l2, if_neg c11, if_neg c35, if_pos c40, if_pos c66, if_neg c73, if_neg c84, if_neg c89, if_pos c108, if_pos c115]) (by simp only [X7_faultOf_m123_l5, if_neg c11, if_neg c35, if_pos c40, if_pos c66, if_neg c73, if_neg c84, if_neg c89, if_pos c108, if_pos c115]) _ _ hP hD hS ls (lv_sub hl [4, 1, 6, 0] rfl)
                  · refine lv_iload hx hb dX7_faultOf_92 (lv_at hl 2 rfl) ?_
                    refine fx_callSI (As := [.int (v_sign j6)]) (rest := []) (wr := [(a_this, .inr (7, [.ref a_start, .ref a_mass, .ref a_rows, .ref a_told, .int v_signs, .ref a_sign, .int v_many, .ref a_kept, .ref a_ended, .ref a_cell, .ref a_loss, .long v_left, .long v_rime, .long v_frost, .int v_began, .int v_last, .int v_rounds, .ref a_read, .ref a_times, .ref a_gains, .int v_seed, .ref a_image, .ref a_isKept])), (a_sign, .inl (cI, 60, .inl v_sign))]) ⟨hx, hb, hml, hown, hts⟩ hG hGs (k_X7_end l G hG D cI cJ cZ cH (v_sign j6)  ) (va_cwS 1 hts gX7_faultOf_X7_end rfl rfl rfl (by decide +kernel) ⟨by decide, by decide⟩) hK hP hD hS hA [] [0, 1] rfl rfl (by decide) (by decide) (by decide) rfl rfl hl.1 (Nat.le_of_ble_eq_true rfl) dX7_faultOf_94 (Nat.zero_le _) (Nat.zero_le _) (fun H locs hP hD hS => ?_)
                    have hP : va_P D vwCl [(a_this, .inr (7, [.ref a_start, .ref a_mass, .ref a_rows, .ref a_told, .int v_signs, .ref a_sign, .int v_many, .ref a_kept, .ref a_ended, .ref a_cell, .ref a_loss, .long v_left, .long v_rime, .long v_frost, .int v_began, .int v_last, .int v_rounds, .ref a_read, .ref a_times, .ref a_gains, .int v_seed, .ref a_image, .ref a_isKept])), (a_sign, .inl (cI, 60, .inl v_sign))] H := hP
                    have hD : va_D A [(a_this, .inr (7, [.ref a_start, .ref a_mass, .ref a_rows, .ref a_told, .int v_signs, .ref a_sign, .int v_many, .ref a_kept, .ref a_ended, .ref a_cell, .ref a_loss, .long v_left, .long v_rime, .long v_frost, .int v_began, .int v_last, .int v_rounds, .ref a_read, .ref a_times, .ref a_gains, .int v_seed, .ref a_image, .ref a_isKept])), (a_sign, .inl (cI, 60, .inl v_sign))] := hD
                    refine lv_if_lt (tgt := 106) hx hb dX7_faultOf_97 (by decide) (fun c97 => ?_) (fun c97 => ?_)
                    · refine lv_iload_n hx hb dX7_faultOf_106 rfl (lv_at hl 4 rfl) ?_
                      refine lv_iconst (v := 3) hx hb dX7_faultOf_107 (by decide) ?_
                      refine lv_icmp_ne (tgt := 123) hx hb dX7_faultOf_108 (by decide) (fun c108 => ?_) (fun c108 => ?_)
                      · exact C123 x6_l2 ((-6) : Int32) (by simp only [X7_faultOf_m123_l2, if_neg c11, if_neg c35, if_pos c40, if_pos c66, if_neg c73, if_neg c84, if_pos c89, if_pos c97, if_neg c108]) (by simp only [X7_faultOf_m123_l5, if_neg c11, if_neg c35, if_pos c40, if_pos c66, if_neg c73, if_neg c84, if_pos c89, if_pos c97, if_neg c108]) _ _ hP hD hS ls (lv_sub hl [3, 5, 6, 1] rfl)
                      · refine lv_iload hx hb dX7_faultOf_111 (lv_at hl 2 rfl) ?_
                        refine lv_bipush (v := 59) hx hb dX7_faultOf_113 (by decide) ?_
                        refine lv_icmp_ne (tgt := 123) hx hb dX7_faultOf_115 (by decide) (fun c115 => ?_) (fun c115 => ?_)
                        · exact C123 x6_l2 ((-6) : Int32) (by simp only [X7_faultOf_m123_l2, if_neg c11, if_neg c35, if_pos c40, if_pos c66, if_neg c73, if_neg c84, if_pos c89, if_pos c97, if_pos c108, if_neg c115]) (by simp only [X7_faultOf_m123_l5, if_neg c11, if_neg c35, if_pos c40, if_pos c66, if_neg c73, if_neg c84, if_pos c89, if_pos c97, if_pos c108, if_neg c115]) _ _ hP hD hS ls (lv_sub hl [3, 5, 6, 1] rfl)
                        · refine lv_iconst (v := 0) hx hb dX7_faultOf_118 (by decide) ?_
                          refine lv_istore_n (lv' := [(2, .int (0 : Int32)), (6, .int (X7_letter (v_sign j6))), (5, .int ((-6) : Int32)), (4, .int (v_sign j6)), (0, .ref a_this), (1, .int x6_l1), (3, .int (nI j6))]) hx hb dX7_faultOf_119 rfl hl (by decide) rfl (fun ls hl => ?_)
                          refine lv_iconst (v := 0) hx hb dX7_faultOf_120 (by decide) ?_
                          refine lv_istore (lv' := [(5, .int (0 : Int32)), (2, .int (0 : Int32)), (6, .int (X7_letter (v_sign j6))), (4, .int (v_sign j6)), (0, .ref a_this), (1, .int x6_l1), (3, .int (nI j6))]) hx hb dX7_faultOf_121 hl (by decide) rfl (fun ls hl => ?_)
                          exact C123 (0 : Int32) (0 : Int32) (by simp only [X7_faultOf_m123_l2, if_neg c11, if_neg c35, if_pos c40, if_pos c66, if_neg c73, if_neg c84, if_pos c89, if_pos c97, if_pos c108, if_pos c115]) (by simp only [X7_faultOf_m123_l5, if_neg c11, if_neg c35, if_pos c40, if_pos c66, if_neg c73, if_neg c84, if_pos c89, if_pos c97, if_pos c108, if_pos c115]) _ _ hP hD hS ls (lv_sub hl [4, 1, 6, 0] rfl)
                    · refine lv_iconst (v := 3) hx hb dX7_faultOf_100 (by decide) ?_
                      refine lv_istore (lv' := [(5, .int (3 : Int32)), (6, .int (X7_letter (v_sign j6))), (4, .int (v_sign j6)), (0, .ref a_this), (1, .int x6_l1), (2, .int x6_l2), (3, .int (nI j6))]) hx hb dX7_faultOf_101 hl (by decide) rfl (fun ls hl => ?_)
                      refine lv_goto (tgt := 123) hx hb dX7_faultOf_103 (by decide) ?_
                      exact C123 x6_l2 (3 : Int32) (by simp only [X7_faultOf_m123_l2, if_neg c11, if_neg c35, if_pos c40, if_pos c66, if_neg c73, if_neg c84, if_pos c89, if_neg c97]) (by simp only [X7_faultOf_m123_l5, if_neg c11, if_neg c35, if_pos c40, if_pos c66, if_neg c73, if_neg c84, if_pos c89, if_neg c97]) _ _ hP hD hS ls (lv_sub hl [3, 5, 6, 0] rfl)
              · refine lv_iconst (v := 2) hx hb dX7_faultOf_76 (by decide) ?_
                refine lv_istore (lv' := [(5, .int (2 : Int32)), (6, .int (X7_letter (v_sign j6))), (4, .int (v_sign j6)), (0, .ref a_this), (1, .int x6_l1), (2, .int x6_l2), (3, .int (nI j6))]) hx hb dX7_faultOf_77 hl (by decide) rfl (fun ls hl => ?_)
                refine lv_goto (tgt := 123) hx hb dX7_faultOf_79 (by decide) ?_
                exact C123 x6_l2 (2 : Int32) (by simp only [X7_faultOf_m123_l2, if_neg c11, if_neg c35, if_pos c40, if_pos c66, if_pos c73]) (by simp only [X7_faultOf_m123_l5, if_neg c11, if_neg c35, if_pos c40, if_pos c66, if_pos c73]) _ _ hP hD hS ls (lv_sub hl [3, 5, 6, 0] rfl)
          · refine lv_iload_n hx hb dX7_faultOf_43 rfl (lv_at hl 5 rfl) ?_
            refine lv_iload hx hb dX7_faultOf_44 (lv_at hl 0 rfl) ?_
            refine lv_ishr hx hb dX7_faultOf_46 ?_
            refine lv_iconst (v := 1) hx hb dX7_faultOf_47 (by decide) ?_
            refine lv_iand hx hb dX7_faultOf_48 ?_
            refine lv_if_ne (tgt := 65) hx hb dX7_faultOf_49 (by decide) (fun c49 => ?_) (fun c49 => ?_)
            · refine lv_iload_n hx hb dX7_faultOf_65 rfl (lv_at hl 4 rfl) ?_
              refine lv_if_ne (tgt := 82) hx hb dX7_faultOf_66 (by decide) (fun c66 => ?_) (fun c66 => ?_)
              · refine lv_iload_n hx hb dX7_faultOf_82 rfl (lv_at hl 4 rfl) ?_
                refine lv_iconst (v := 1) hx hb dX7_faultOf_83 (by decide) ?_
                refine lv_icmp_eq (tgt := 92) hx hb dX7_faultOf_84 (by decide) (fun c84 => ?_) (fun c84 => ?_)
                · refine lv_iload hx hb dX7_faultOf_92 (lv_at hl 2 rfl) ?_
                  refine fx_callSI (As := [.int (v_sign j6)]) (rest := []) (wr := [(a_this, .inr (7, [.ref a_start, .ref a_mass, .ref a_rows, .ref a_told, .int v_signs, .ref a_sign, .int v_many, .ref a_kept, .ref a_ended, .ref a_cell, .ref a_loss, .long v_left, .long v_rime, .long v_frost, .int v_began, .int v_last, .int v_rounds, .ref a_read, .ref a_times, .ref a_gains, .int v_seed, .ref a_image, .ref a_isKept])), (a_sign, .inl (cI, 60, .inl v_sign))]) ⟨hx, hb, hml, hown, hts⟩ hG hGs (k_X7_end l G hG D cI cJ cZ cH (v_sign j6)  ) (va_cwS 1 hts gX7_faultOf_X7_end rfl rfl rfl (by decide +kernel) ⟨by decide, by decide⟩) hK hP hD hS hA [] [0, 1] rfl rfl (by decide) (by decide) (by decide) rfl rfl hl.1 (Nat.le_of_ble_eq_true rfl) dX7_faultOf_94 (Nat.zero_le _) (Nat.zero_le _) (fun H locs hP hD hS => ?_)
                  have hP : va_P D vwCl [(a_this, .inr (7, [.ref a_start, .ref a_mass, .ref a_rows, .ref a_told, .int v_signs, .ref a_sign, .int v_many, .ref a_kept, .ref a_ended, .ref a_cell, .ref a_loss, .long v_left, .long v_rime, .long v_frost, .int v_began, .int v_last, .int v_rounds, .ref a_read, .ref a_times, .ref a_gains, .int v_seed, .ref a_image, .ref a_isKept])), (a_sign, .inl (cI, 60, .inl v_sign))] H := hP
                  have hD : va_D A [(a_this, .inr (7, [.ref a_start, .ref a_mass, .ref a_rows, .ref a_told, .int v_signs, .ref a_sign, .int v_many, .ref a_kept, .ref a_ended, .ref a_cell, .ref a_loss, .long v_left, .long v_rime, .long v_frost, .int v_began, .int v_last, .int v_rounds, .ref a_read, .ref a_times, .ref a_gains, .int v_seed, .ref a_image, .ref a_isKept])), (a_sign, .inl (cI, 60, .inl v_sign))] := hD
                  refine lv_if_lt (tgt := 106) hx hb dX7_faultOf_97 (by decide) (fun c97 => ?_) (fun c97 => ?_)
                  · refine lv_iload_n hx hb dX7_faultOf_106 rfl (lv_at hl 4 rfl) ?_
                    refine lv_iconst (v := 3) hx hb dX7_faultOf_107 (by decide) ?_
                    refine lv_icmp_ne (tgt := 123) hx hb dX7_faultOf_108 (by decide) (fun c108 => ?_) (fun c108 => ?_)
                    · exact C123 x6_l2 ((-6) : Int32) (by simp only [X7_faultOf_m123_l2, if_neg c11, if_neg c35, if_neg c40, if_neg c49, if_neg c66, if_pos c84, if_pos c97, if_neg c108]) (by simp only [X7_faultOf_m123_l5, if_neg c11, if_neg c35, if_neg c40, if_neg c49, if_neg c66, if_pos c84, if_pos c97, if_neg c108]) _ _ hP hD hS ls (lv_sub hl [3, 5, 6, 1] rfl)
                    · refine lv_iload hx hb dX7_faultOf_111 (lv_at hl 2 rfl) ?_
                      refine lv_bipush (v := 59) hx hb dX7_faultOf_113 (by decide) ?_
                      refine lv_icmp_ne (tgt := 123) hx hb dX7_faultOf_115 (by decide) (fun c115 => ?_) (fun c115 => ?_)
                      · exact C123 x6_l2 ((-6) : Int32) (by simp only [X7_faultOf_m123_l2, if_neg c11, if_neg c35, if_neg c40, if_neg c49, if_neg c66, if_pos c84, if_pos c97, if_pos c108, if_neg c115]) (by simp only [X7_faultOf_m123_l5, if_neg c11, if_neg c35, if_neg c40, if_neg c49, if_neg c66, if_pos c84, if_pos c97, if_pos c108, if_neg c115]) _ _ hP hD hS ls (lv_sub hl [3, 5, 6, 1] rfl)
                      · refine lv_iconst (v := 0) hx hb dX7_faultOf_118 (by decide) ?_
                        refine lv_istore_n (lv' := [(2, .int (0 : Int32)), (6, .int (X7_letter (v_sign j6))), (5, .int ((-6) : Int32)), (4, .int (v_sign j6)), (0, .ref a_this), (1, .int x6_l1), (3, .int (nI j6))]) hx hb dX7_faultOf_119 rfl hl (by decide) rfl (fun ls hl => ?_)
                        refine lv_iconst (v := 0) hx hb dX7_faultOf_120 (by decide) ?_
                        refine lv_istore (lv' := [(5, .int (0 : Int32)), (2, .int (0 : Int32)), (6, .int (X7_letter (v_sign j6))), (4, .int (v_sign j6)), (0, .ref a_this), (1, .int x6_l1), (3, .int (nI j6))]) hx hb dX7_faultOf_121 hl (by decide) rfl (fun ls hl => ?_)
                        exact C123 (0 : Int32) (0 : Int32) (by simp only [X7_faultOf_m123_l2, if_neg c11, if_neg c35, if_neg c40, if_neg c49, if_neg c66, if_pos c84, if_pos c97, if_pos c108, if_pos c115]) (by simp only [X7_faultOf_m123_l5, if_neg c11, if_neg c35, if_neg c40, if_neg c49, if_neg c66, if_pos c84, if_pos c97, if_pos c108, if_pos c115]) _ _ hP hD hS ls (lv_sub hl [4, 1, 6, 0] rfl)
                  · refine lv_iconst (v := 3) hx hb dX7_faultOf_100 (by decide) ?_
                    refine lv_istore (lv' := [(5, .int (3 : Int32)), (6, .int (X7_letter (v_sign j6))), (4, .int (v_sign j6)), (0, .ref a_this), (1, .int x6_l1), (2, .int x6_l2), (3, .int (nI j6))]) hx hb dX7_faultOf_101 hl (by decide) rfl (fun ls hl => ?_)
                    refine lv_goto (tgt := 123) hx hb dX7_faultOf_103 (by decide) ?_
                    exact C123 x6_l2 (3 : Int32) (by simp only [X7_faultOf_m123_l2, if_neg c11, if_neg c35, if_neg c40, if_neg c49, if_neg c66, if_pos c84, if_neg c97]) (by simp only [X7_faultOf_m123_l5, if_neg c11, if_neg c35, if_neg c40, if_neg c49, if_neg c66, if_pos c84, if_neg c97]) _ _ hP hD hS ls (lv_sub hl [3, 5, 6, 0] rfl)
                · refine lv_iload_n hx hb dX7_faultOf_87 rfl (lv_at hl 4 rfl) ?_
                  refine lv_iconst (v := 2) hx hb dX7_faultOf_88 (by decide) ?_
                  refine lv_icmp_ne (tgt := 106) hx hb dX7_faultOf_89 (by decide) (fun c89 => ?_) (fun c89 => ?_)
                  · refine lv_iload_n hx hb dX7_faultOf_106 rfl (lv_at hl 4 rfl) ?_
                    refine lv_iconst (v := 3) hx hb dX7_faultOf_107 (by decide) ?_
                    refine lv_icmp_ne (tgt := 123) hx hb dX7_faultOf_108 (by decide) (fun c108 => ?_) (fun c108 => ?_)
                    · exact C123 x6_l2 ((-6) : Int32) (by simp only [X7_faultOf_m123_l2, if_neg c11, if_neg c35, if_neg c40, if_neg c49, if_neg c66, if_neg c84, if_neg c89, if_neg c108]) (by simp only [X7_faultOf_m123_l5, if_neg c11, if_neg c35, if_neg c40, if_neg c49, if_neg c66, if_neg c84, if_neg c89, if_neg c108]) _ _ hP hD hS ls (lv_sub hl [3, 5, 6, 1] rfl)
                    · refine lv_iload hx hb dX7_faultOf_111 (lv_at hl 2 rfl) ?_
                      refine lv_bipush (v := 59) hx hb dX7_faultOf_113 (by decide) ?_
                      refine lv_icmp_ne (tgt := 123) hx hb dX7_faultOf_115 (by decide) (fun c115 => ?_) (fun c115 => ?_)
                      · exact C123 x6_l2 ((-6) : Int32) (by simp only [X7_faultOf_m123_l2, if_neg c11, if_neg c35, if_neg c40, if_neg c49, if_neg c66, if_neg c84, if_neg c89, if_pos c108, if_neg c115]) (by simp only [X7_faultOf_m123_l5, if_neg c11, if_neg c35, if_neg c40, if_neg c49, if_neg c66, if_neg c84, if_neg c89, if_pos c108, if_neg c115]) _ _ hP hD hS ls (lv_sub hl [3, 5, 6, 1] rfl)
                      · refine lv_iconst (v := 0) hx hb dX7_faultOf_118 (by decide) ?_
                        refine lv_istore_n (lv' := [(2, .int (0 : Int32)), (6, .int (X7_letter (v_sign j6))), (5, .int ((-6) : Int32)), (4, .int (v_sign j6)), (0, .ref a_this), (1, .int x6_l1), (3, .int (nI j6))]) hx hb dX7_faultOf_119 rfl hl (by decide) rfl (fun ls hl => ?_)
                        refine lv_iconst (v := 0) hx hb dX7_faultOf_120 (by decide) ?_
                        refine lv_istore (lv' := [(5, .int (0 : Int32)), (2, .int (0 : Int32)), (6, .int (X7_letter (v_sign j6))), (4, .int (v_sign j6)), (0, .ref a_this), (1, .int x6_l1), (3, .int (nI j6))]) hx hb dX7_faultOf_121 hl (by decide) rfl (fun ls hl => ?_)
                        exact C123 (0 : Int32) (0 : Int32) (by simp only [X7_faultOf_m123_l2, if_neg c11, if_neg c35, if_neg c40, if_neg c49, if_neg c66, if_neg c84, if_neg c89, if_pos c108, if_pos c115]) (by simp only [X7_faultOf_m123_l5, if_neg c11, if_neg c35, if_neg c40, if_neg c49, if_neg c66, if_neg c84, if_neg c89, if_pos c108, if_pos c115]) _ _ hP hD hS ls (lv_sub hl [4, 1, 6, 0] rfl)
                  · refine lv_iload hx hb dX7_faultOf_92 (lv_at hl 2 rfl) ?_
                    refine fx_callSI (As := [.int (v_sign j6)]) (rest := []) (wr := [(a_this, .inr (7, [.ref a_start, .ref a_mass, .ref a_rows, .ref a_told, .int v_signs, .ref a_sign, .int v_many, .ref a_kept, .ref a_ended, .ref a_cell, .ref a_loss, .long v_left, .long v_rime, .long v_frost, .int v_began, .int v_last, .int v_rounds, .ref a_read, .ref a_times, .ref a_gains, .int v_seed, .ref a_image, .ref a_isKept])), (a_sign, .inl (cI, 60, .inl v_sign))]) ⟨hx, hb, hml, hown, hts⟩ hG hGs (k_X7_end l G hG D cI cJ cZ cH (v_sign j6)  ) (va_cwS 1 hts gX7_faultOf_X7_end rfl rfl rfl (by decide +kernel) ⟨by decide, by decide⟩) hK hP hD hS hA [] [0, 1] rfl rfl (by decide) (by decide) (by decide) rfl rfl hl.1 (Nat.le_of_ble_eq_true rfl) dX7_faultOf_94 (Nat.zero_le _) (Nat.zero_le _) (fun H locs hP hD hS => ?_)
                    have hP : va_P D vwCl [(a_this, .inr (7, [.ref a_start, .ref a_mass, .ref a_rows, .ref a_told, .int v_signs, .ref a_sign, .int v_many, .ref a_kept, .ref a_ended, .ref a_cell, .ref a_loss, .long v_left, .long v_rime, .long v_frost, .int v_began, .int v_last, .int v_rounds, .ref a_read, .ref a_times, .ref a_gains, .int v_seed, .ref a_image, .ref a_isKept])), (a_sign, .inl (cI, 60, .inl v_sign))] H := hP
                    have hD : va_D A [(a_this, .inr (7, [.ref a_start, .ref a_mass, .ref a_rows, .ref a_told, .int v_signs, .ref a_sign, .int v_many, .ref a_kept, .ref a_ended, .ref a_cell, .ref a_loss, .long v_left, .long v_rime, .long v_frost, .int v_began, .int v_last, .int v_rounds, .ref a_read, .ref a_times, .ref a_gains, .int v_seed, .ref a_image, .ref a_isKept])), (a_sign, .inl (cI, 60, .inl v_sign))] := hD
                    refine lv_if_lt (tgt := 106) hx hb dX7_faultOf_97 (by decide) (fun c97 => ?_) (fun c97 => ?_)
                    · refine lv_iload_n hx hb dX7_faultOf_106 rfl (lv_at hl 4 rfl) ?_
                      refine lv_iconst (v := 3) hx hb dX7_faultOf_107 (by decide) ?_
                      refine lv_icmp_ne (tgt := 123) hx hb dX7_faultOf_108 (by decide) (fun c108 => ?_) (fun c108 => ?_)
                      · exact C123 x6_l2 ((-6) : Int32) (by simp only [X7_faultOf_m123_l2, if_neg c11, if_neg c35, if_neg c40, if_neg c49, if_neg c66, if_neg c84, if_pos c89, if_pos c97, if_neg c108]) (by simp only [X7_faultOf_m123_l5, if_neg c11, if_neg c35, if_neg c40, if_neg c49, if_neg c66, if_neg c84, if_pos c89, if_pos c97, if_neg c108]) _ _ hP hD hS ls (lv_sub hl [3, 5, 6, 1] rfl)
                      · refine lv_iload hx hb dX7_faultOf_111 (lv_at hl 2 rfl) ?_
                        refine lv_bipush (v := 59) hx hb dX7_faultOf_113 (by decide) ?_
                        refine lv_icmp_ne (tgt := 123) hx hb dX7_faultOf_115 (by decide) (fun c115 => ?_) (fun c115 => ?_)
                        · exact C123 x6_l2 ((-6) : Int32) (by simp only [X7_faultOf_m123_l2, if_neg c11, if_neg c35, if_neg c40, if_neg c49, if_neg c66, if_neg c84, if_pos c89, if_pos c97, if_pos c108, if_neg c115]) (by simp only [X7_faultOf_m123_l5, if_neg c11, if_neg c35, if_neg c40, if_neg c49, if_neg c66, if_neg c84, if_pos c89, if_pos c97, if_pos c108, if_neg c115]) _ _ hP hD hS ls (lv_sub hl [3, 5, 6, 1] rfl)
                        · refine lv_iconst (v := 0) hx hb dX7_faultOf_118 (by decide) ?_
                          refine lv_istore_n (lv' := [(2, .int (0 : Int32)), (6, .int (X7_letter (v_sign j6))), (5, .int ((-6) : Int32)), (4, .int (v_sign j6)), (0, .ref a_this), (1, .int x6_l1), (3, .int (nI j6))]) hx hb dX7_faultOf_119 rfl hl (by decide) rfl (fun ls hl => ?_)
                          refine lv_iconst (v := 0) hx hb dX7_faultOf_120 (by decide) ?_
                          refine lv_istore (lv' := [(5, .int (0 : Int32)), (2, .int (0 : Int32)), (6, .int (X7_letter (v_sign j6))), (4, .int (v_sign j6)), (0, .ref a_this), (1, .int x6_l1), (3, .int (nI j6))]) hx hb dX7_faultOf_121 hl (by decide) rfl (fun ls hl => ?_)
                          exact C123 (0 : Int32) (0 : Int32) (by simp only [X7_faultOf_m123_l2, if_neg c11, if_neg c35, if_neg c40, if_neg c49, if_neg c66, if_neg c84, if_pos c89, if_pos c97, if_pos c108, if_pos c115]) (by simp only [X7_faultOf_m123_l5, if_neg c11, if_neg c35, if_neg c40, if_neg c49, if_neg c66, if_neg c84, if_pos c89, if_pos c97, if_pos c108, if_pos c115]) _ _ hP hD hS ls (lv_sub hl [4, 1, 6, 0] rfl)
                    · refine lv_iconst (v := 3) hx hb dX7_faultOf_100 (by decide) ?_
                      refine lv_istore (lv' := [(5, .int (3 : Int32)), (6, .int (X7_letter (v_sign j6))), (4, .int (v_sign j6)), (0, .ref a_this), (1, .int x6_l1), (2, .int x6_l2), (3, .int (nI j6))]) hx hb dX7_faultOf_101 hl (by decide) rfl (fun ls hl => ?_)
                      refine lv_goto (tgt := 123) hx hb dX7_faultOf_103 (by decide) ?_
                      exact C123 x6_l2 (3 : Int32) (by simp only [X7_faultOf_m123_l2, if_neg c11, if_neg c35, if_neg c40, if_neg c49, if_neg c66, if_neg c84, if_pos c89, if_neg c97]) (by simp only [X7_faultOf_m123_l5, if_neg c11, if_neg c35, if_neg c40, if_neg c49, if_neg c66, if_neg c84, if_pos c89, if_neg c97]) _ _ hP hD hS ls (lv_sub hl [3, 5, 6, 0] rfl)
              · refine lv_iload hx hb dX7_faultOf_69 (lv_at hl 2 rfl) ?_
                refine lv_bipush (v := 45) hx hb dX7_faultOf_71 (by decide) ?_
                refine lv_icmp_ne (tgt := 82) hx hb dX7_faultOf_73 (by decide) (fun c73 => ?_) (fun c73 => ?_)
                · refine lv_iload_n hx hb dX7_faultOf_82 rfl (lv_at hl 4 rfl) ?_
                  refine lv_iconst (v := 1) hx hb dX7_faultOf_83 (by decide) ?_
                  refine lv_icmp_eq (tgt := 92) hx hb dX7_faultOf_84 (by decide) (fun c84 => ?_) (fun c84 => ?_)
                  · refine lv_iload hx hb dX7_faultOf_92 (lv_at hl 2 rfl) ?_
                    refine fx_callSI (As := [.int (v_sign j6)]) (rest := []) (wr := [(a_this, .inr (7, [.ref a_start, .ref a_mass, .ref a_rows, .ref a_told, .int v_signs, .ref a_sign, .int v_many, .ref a_kept, .ref a_ended, .ref a_cell, .ref a_loss, .long v_left, .long v_rime, .long v_frost, .int v_began, .int v_last, .int v_rounds, .ref a_read, .ref a_times, .ref a_gains, .int v_seed, .ref a_image, .ref a_isKept])), (a_sign, .inl (cI, 60, .inl v_sign))]) ⟨hx, hb, hml, hown, hts⟩ hG hGs (k_X7_end l G hG D cI cJ cZ cH (v_sign j6)  ) (va_cwS 1 hts gX7_faultOf_X7_end rfl rfl rfl (by decide +kernel) ⟨by decide, by decide⟩) hK hP hD hS hA [] [0, 1] rfl rfl (by decide) (by decide) (by decide) rfl rfl hl.1 (Nat.le_of_ble_eq_true rfl) dX7_faultOf_94 (Nat.zero_le _) (Nat.zero_le _) (fun H locs hP hD hS => ?_)
                    have hP : va_P D vwCl [(a_this, .inr (7, [.ref a_start, .ref a_mass, .ref a_rows, .ref a_told, .int v_signs, .ref a_sign, .int v_many, .ref a_kept, .ref a_ended, .ref a_cell, .ref a_loss, .long v_left, .long v_rime, .long v_frost, .int v_began, .int v_last, .int v_rounds, .ref a_read, .ref a_times, .ref a_gains, .int v_seed, .ref a_image, .ref a_isKept])), (a_sign, .inl (cI, 60, .inl v_sign))] H := hP
                    have hD : va_D A [(a_this, .inr (7, [.ref a_start, .ref a_mass, .ref a_rows, .ref a_told, .int v_signs, .ref a_sign, .int v_many, .ref a_kept, .ref a_ended, .ref a_cell, .ref a_loss, .long v_left, .long v_rime, .long v_frost, .int v_began, .int v_last, .int v_rounds, .ref a_read, .ref a_times, .ref a_gains, .int v_seed, .ref a_image, .ref a_isKept])), (a_sign, .inl (cI, 60, .inl v_sign))] := hD
                    refine lv_if_lt (tgt := 106) hx hb dX7_faultOf_97 (by decide) (fun c97 => ?_) (fun c97 => ?_)
                    · refine lv_iload_n hx hb dX7_faultOf_106 rfl (lv_at hl 4 rfl) ?_
                      refine lv_iconst (v := 3) hx hb dX7_faultOf_107 (by decide) ?_
                      refine lv_icmp_ne (tgt := 123) hx hb dX7_faultOf_108 (by decide) (fun c108 => ?_) (fun c108 => ?_)
                      · exact C123 x6_l2 ((-6) : Int32) (by simp only [X7_faultOf_m123_l2, if_neg c11, if_neg c35, if_neg c40, if_neg c49, if_pos c66, if_neg c73, if_pos c84, if_pos c97, if_neg c108]) (by simp only [X7_faultOf_m123_l5, if_neg c11, if_neg c35, if_neg c40, if_neg c49, if_pos c66, if_neg c73, if_pos c84, if_pos c97, if_neg c108]) _ _ hP hD hS ls (lv_sub hl [3, 5, 6, 1] rfl)
                      · refine lv_iload hx hb dX7_faultOf_111 (lv_at hl 2 rfl) ?_
                        refine lv_bipush (v := 59) hx hb dX7_faultOf_113 (by decide) ?_
                        refine lv_icmp_ne (tgt := 123) hx hb dX7_faultOf_115 (by decide) (fun c115 => ?_) (fun c115 => ?_)
                        · exact C123 x6_l2 ((-6) : Int32) (by simp only [X7_faultOf_m123_l2, if_neg c11, if_neg c35, if_neg c40, if_neg c49, if_pos c66, if_neg c73, if_pos c84, if_pos c97, if_pos c108, if_neg c115]) (by simp only [X7_faultOf_m123_l5, if_neg c11, if_neg c35, if_neg c40, if_neg c49, if_pos c66, if_neg c73, if_pos c84, if_pos c97, if_pos c108, if_neg c115]) _ _ hP hD hS ls (lv_sub hl [3, 5, 6, 1] rfl)
                        · refine lv_iconst (v := 0) hx hb dX7_faultOf_118 (by decide) ?_
                          refine lv_istore_n (lv' := [(2, .int (0 : Int32)), (6, .int (X7_letter (v_sign j6))), (5, .int ((-6) : Int32)), (4, .int (v_sign j6)), (0, .ref a_this), (1, .int x6_l1), (3, .int (nI j6))]) hx hb dX7_faultOf_119 rfl hl (by decide) rfl (fun ls hl => ?_)
                          refine lv_iconst (v := 0) hx hb dX7_faultOf_120 (by decide) ?_
                          refine lv_istore (lv' := [(5, .int (0 : Int32)), (2, .int (0 : Int32)), (6, .int (X7_letter (v_sign j6))), (4, .int (v_sign j6)), (0, .ref a_this), (1, .int x6_l1), (3, .int (nI j6))]) hx hb dX7_faultOf_121 hl (by decide) rfl (fun ls hl => ?_)
                          exact C123 (0 : Int32) (0 : Int32) (by simp only [X7_faultOf_m123_l2, if_neg c11, if_neg c35, if_neg c40, if_neg c49, if_pos c66, if_neg c73, if_pos c84, if_pos c97, if_pos c108, if_pos c115]) (by simp only [X7_faultOf_m123_l5, if_neg c11, if_neg c35, if_neg c40, if_neg c49, if_pos c66, if_neg c73, if_pos c84, if_pos c97, if_pos c108, if_pos c115]) _ _ hP hD hS ls (lv_sub hl [4, 1, 6, 0] rfl)
                    · refine lv_iconst (v := 3) hx hb dX7_faultOf_100 (by decide) ?_
                      refine lv_istore (lv' := [(5, .int (3 : Int32)), (6, .int (X7_letter (v_sign j6))), (4, .int (v_sign j6)), (0, .ref a_this), (1, .int x6_l1), (2, .int x6_l2), (3, .int (nI j6))]) hx hb dX7_faultOf_101 hl (by decide) rfl (fun ls hl => ?_)
                      refine lv_goto (tgt := 123) hx hb dX7_faultOf_103 (by decide) ?_
                      exact C123 x6_l2 (3 : Int32) (by simp only [X7_faultOf_m123_l2, if_neg c11, if_neg c35, if_neg c40, if_neg c49, if_pos c66, if_neg c73, if_pos c84, if_neg c97]) (by simp only [X7_faultOf_m123_l5, if_neg c11, if_neg c35, if_neg c40, if_neg c49, if_pos c66, if_neg c73, if_pos c84, if_neg c97]) _ _ hP hD hS ls (lv_sub hl [3, 5, 6, 0] rfl)
                  · refine lv_iload_n hx hb dX7_faultOf_87 rfl (lv_at hl 4 rfl) ?_
                    refine lv_iconst (v := 2) hx hb dX7_faultOf_88 (by decide) ?_
                    refine lv_icmp_ne (tgt := 106) hx hb dX7_faultOf_89 (by decide) (fun c89 => ?_) (fun c89 => ?_)
                    · refine lv_iload_n hx hb dX7_faultOf_106 rfl (lv_at hl 4 rfl) ?_
                      refine lv_iconst (v := 3) hx hb dX7_faultOf_107 (by decide) ?_
                      refine lv_icmp_ne (tgt := 123) hx hb dX7_faultOf_108 (by decide) (fun c108 => ?_) (fun c108 => ?_)
                      · exact C123 x6_l2 ((-6) : Int32) (by simp only [X7_faultOf_m123_l2, if_neg c11, if_neg c35, if_neg c40, if_neg c49, if_pos c66, if_neg c73, if_neg c84, if_neg c89, if_neg c108]) (by simp only [X7_faultOf_m123_l5, if_neg c11, if_neg c35, if_neg c40, if_neg c49, if_pos c66, if_neg c73, if_neg c84, if_neg c89, if_neg c108]) _ _ hP hD hS ls (lv_sub hl [3, 5, 6, 1] rfl)
                      · refine lv_iload hx hb dX7_faultOf_111 (lv_at hl 2 rfl) ?_
                        refine lv_bipush (v := 59) hx hb dX7_faultOf_113 (by decide) ?_
                        refine lv_icmp_ne (tgt := 123) hx hb dX7_faultOf_115 (by decide) (fun c115 => ?_) (fun c115 => ?_)
                        · exact C123 x6_l2 ((-6) : Int32) (by simp only [X7_faultOf_m123_l2, if_neg c11, if_neg c35, if_neg c40, if_neg c49, if_pos c66, if_neg c73, if_neg c84, if_neg c89, if_pos c108, if_neg c115]) (by simp only [X7_faultOf_m123_l5, if_neg c11, if_neg c35, if_neg c40, if_neg c49, if_pos c66, if_neg c73, if_neg c84, if_neg c89, if_pos c108, if_neg c115]) _ _ hP hD hS ls (lv_sub hl [3, 5, 6, 1] rfl)
                        · refine lv_iconst (v := 0) hx hb dX7_faultOf_118 (by decide) ?_
                          refine lv_istore_n (lv' := [(2, .int (0 : Int32)), (6, .int (X7_letter (v_sign j6))), (5, .int ((-6) : Int32)), (4, .int (v_sign j6)), (0, .ref a_this), (1, .int x6_l1), (3, .int (nI j6))]) hx hb dX7_faultOf_119 rfl hl (by decide) rfl (fun ls hl => ?_)
                          refine lv_iconst (v := 0) hx hb dX7_faultOf_120 (by decide) ?_
                          refine lv_istore (lv' := [(5, .int (0 : Int32)), (2, .int (0 : Int32)), (6, .int (X7_letter (v_sign j6))), (4, .int (v_sign j6)), (0, .ref a_this), (1, .int x6_l1), (3, .int (nI j6))]) hx hb dX7_faultOf_121 hl (by decide) rfl (fun ls hl => ?_)
                          exact C123 (0 : Int32) (0 : Int32) (by simp only [X7_faultOf_m123_l2, if_neg c11, if_neg c35, if_neg c40, if_neg c49, if_pos c66, if_neg c73, if_neg c84, if_neg c89, if_pos c108, if_pos c115]) (by simp only [X7_faultOf_m123_l5, if_neg c11, if_neg c35, if_neg c40, if_neg c49, if_pos c66, if_neg c73, if_neg c84, if_neg c89, if_pos c108, if_pos c115]) _ _ hP hD hS ls (lv_sub hl [4, 1, 6, 0] rfl)
                    · refine lv_iload hx hb dX7_faultOf_92 (lv_at hl 2 rfl) ?_
                      refine fx_callSI (As := [.int (v_sign j6)]) (rest := []) (wr := [(a_this, .inr (7, [.ref a_start, .ref a_mass, .ref a_rows, .ref a_told, .int v_signs, .ref a_sign, .int v_many, .ref a_kept, .ref a_ended, .ref a_cell, .ref a_loss, .long v_left, .long v_rime, .long v_frost, .int v_began, .int v_last, .int v_rounds, .ref a_read, .ref a_times, .ref a_gains, .int v_seed, .ref a_image, .ref a_isKept])), (a_sign, .inl (cI, 60, .inl v_sign))]) ⟨hx, hb, hml, hown, hts⟩ hG hGs (k_X7_end l G hG D cI cJ cZ cH (v_sign j6)  ) (va_cwS 1 hts gX7_faultOf_X7_end rfl rfl rfl (by decide +kernel) ⟨by decide, by decide⟩) hK hP hD hS hA [] [0, 1] rfl rfl (by decide) (by decide) (by decide) rfl rfl hl.1 (Nat.le_of_ble_eq_true rfl) dX7_faultOf_94 (Nat.zero_le _) (Nat.zero_le _) (fun H locs hP hD hS => ?_)
                      have hP : va_P D vwCl [(a_this, .inr (7, [.ref a_start, .ref a_mass, .ref a_rows, .ref a_told, .int v_signs, .ref a_sign, .int v_many, .ref a_kept, .ref a_ended, .ref a_cell, .ref a_loss, .long v_left, .long v_rime, .long v_frost, .int v_began, .int v_last, .int v_rounds, .ref a_read, .ref a_times, .ref a_gains, .int v_seed, .ref a_image, .ref a_isKept])), (a_sign, .inl (cI, 60, .inl v_sign))] H := hP
                      have hD : va_D A [(a_this, .inr (7, [.ref a_start, .ref a_mass, .ref a_rows, .ref a_told, .int v_signs, .ref a_sign, .int v_many, .ref a_kept, .ref a_ended, .ref a_cell, .ref a_loss, .long v_left, .long v_rime, .long v_frost, .int v_began, .int v_last, .int v_rounds, .ref a_read, .ref a_times, .ref a_gains, .int v_seed, .ref a_image, .ref a_isKept])), (a_sign, .inl (cI, 60, .inl v_sign))] := hD
                      refine lv_if_lt (tgt := 106) hx hb dX7_faultOf_97 (by decide) (fun c97 => ?_) (fun c97 => ?_)
                      · refine lv_iload_n hx hb dX7_faultOf_106 rfl (lv_at hl 4 rfl) ?_
                        refine lv_iconst (v := 3) hx hb dX7_faultOf_107 (by decide) ?_
                        refine lv_icmp_ne (tgt := 123) hx hb dX7_faultOf_108 (by decide) (fun c108 => ?_) (fun c108 => ?_)
                        · exact C123 x6_l2 ((-6) : Int32) (by simp only [X7_faultOf_m123_l2, if_neg c11, if_neg c35, if_neg c40, if_neg c49, if_pos c66, if_neg c73, if_neg c84, if_pos c89, if_pos c97, if_neg c108]) (by simp only [X7_faultOf_m123_l5, if_neg c11, if_neg c35, if_neg c40, if_neg c49, if_pos c66, if_neg c73, if_neg c84, if_pos c89, if_pos c97, if_neg c108]) _ _ hP hD hS ls (lv_sub hl [3, 5, 6, 1] rfl)
                        · refine lv_iload hx hb dX7_faultOf_111 (lv_at hl 2 rfl) ?_
                          refine lv_bipush (v := 59) hx hb dX7_faultOf_113 (by decide) ?_
                          refine lv_icmp_ne (tgt := 123) hx hb dX7_faultOf_115 (by decide) (fun c115 => ?_) (fun c115 => ?_)
                          · exact C123 x6_l2 ((-6) : Int32) (by simp only [X7_faultOf_m123_l2, if_neg c11, if_neg c35, if_neg c40, if_neg c49, if_pos c66, if_neg c73, if_neg c84, if_pos c89, if_pos c97, if_pos c108, if_neg c115]) (by simp only [X7_faultOf_m123_l5, if_neg c11, if_neg c35, if_neg c40, if_neg c49, if_pos c66, if_neg c73, if_neg c84, if_pos c89, if_pos c97, if_pos c108, if_neg c115]) _ _ hP hD hS ls (lv_sub hl [3, 5, 6, 1] rfl)
                          · refine lv_iconst (v := 0) hx hb dX7_faultOf_118 (by decide) ?_
                            refine lv_istore_n (lv' := [(2, .int (0 : Int32)), (6, .int (X7_letter (v_sign j6))), (5, .int ((-6) : Int32)), (4, .int (v_sign j6)), (0, .ref a_this), (1, .int x6_l1), (3, .int (nI j6))]) hx hb dX7_faultOf_119 rfl hl (by decide) rfl (fun ls hl => ?_)
                            refine lv_iconst (v := 0) hx hb dX7_faultOf_120 (by decide) ?_
                            refine lv_istore (lv' := [(5, .int (0 : Int32)), (2, .int (0 : Int32)), (6, .int (X7_letter (v_sign j6))), (4, .int (v_sign j6)), (0, .ref a_this), (1, .int x6_l1), (3, .int (nI j6))]) hx hb dX7_faultOf_121 hl (by decide) rfl (fun ls hl => ?_)
                            exact C123 (0 : Int32) (0 : Int32) (by simp only [X7_faultOf_m123_l2, if_neg c11, if_neg c35, if_neg c40, if_neg c49, if_pos c66, if_neg c73, if_neg c84, if_pos c89, if_pos c97, if_pos c108, if_pos c115]) (by simp only [X7_faultOf_m123_l5, if_neg c11, if_neg c35, if_neg c40, if_neg c49, if_pos c66, if_neg c73, if_neg c84, if_pos c89, if_pos c97, if_pos c108, if_pos c115]) _ _ hP hD hS ls (lv_sub hl [4, 1, 6, 0] rfl)
                      · refine lv_iconst (v := 3) hx hb dX7_faultOf_100 (by decide) ?_
                        refine lv_istore (lv' := [(5, .int (3 : Int32)), (6, .int (X7_letter (v_sign j6))), (4, .int (v_sign j6)), (0, .ref a_this), (1, .int x6_l1), (2, .int x6_l2), (3, .int (nI j6))]) hx hb dX7_faultOf_101 hl (by decide) rfl (fun ls hl => ?_)
                        refine lv_goto (tgt := 123) hx hb dX7_faultOf_103 (by decide) ?_
                        exact C123 x6_l2 (3 : Int32) (by simp only [X7_faultOf_m123_l2, if_neg c11, if_neg c35, if_neg c40, if_neg c49, if_pos c66, if_neg c73, if_neg c84, if_pos c89, if_neg c97]) (by simp only [X7_faultOf_m123_l5, if_neg c11, if_neg c35, if_neg c40, if_neg c49, if_pos c66, if_neg c73, if_neg c84, if_pos c89, if_neg c97]) _ _ hP hD hS ls (lv_sub hl [3, 5, 6, 0] rfl)
                · refine lv_iconst (v := 2) hx hb dX7_faultOf_76 (by decide) ?_
                  refine lv_istore (lv' := [(5, .int (2 : Int32)), (6, .int (X7_letter (v_sign j6))), (4, .int (v_sign j6)), (0, .ref a_this), (1, .int x6_l1), (2, .int x6_l2), (3, .int (nI j6))]) hx hb dX7_faultOf_77 hl (by decide) rfl (fun ls hl => ?_)
                  refine lv_goto (tgt := 123) hx hb dX7_faultOf_79 (by decide) ?_
                  exact C123 x6_l2 (2 : Int32) (by simp only [X7_faultOf_m123_l2, if_neg c11, if_neg c35, if_neg c40, if_neg c49, if_pos c66, if_pos c73]) (by simp only [X7_faultOf_m123_l5, if_neg c11, if_neg c35, if_neg c40, if_neg c49, if_pos c66, if_pos c73]) _ _ hP hD hS ls (lv_sub hl [3, 5, 6, 0] rfl)
            · refine lv_iload_n hx hb dX7_faultOf_52 rfl (lv_at hl 5 rfl) ?_
              refine lv_iconst (v := 1) hx hb dX7_faultOf_53 (by decide) ?_
              refine lv_iload hx hb dX7_faultOf_54 (lv_at hl 0 rfl) ?_
              refine lv_ishl hx hb dX7_faultOf_56 ?_
              refine lv_ior hx hb dX7_faultOf_57 ?_
              refine lv_istore_n (lv' := [(2, .int (x6_l2 ||| ((1 : Int32) <<< ((X7_letter (v_sign j6)) &&& 31)))), (6, .int (X7_letter (v_sign j6))), (5, .int ((-6) : Int32)), (4, .int (v_sign j6)), (0, .ref a_this), (1, .int x6_l1), (3, .int (nI j6))]) hx hb dX7_faultOf_58 rfl hl (by decide) rfl (fun ls hl => ?_)
              refine lv_iconst (v := 1) hx hb dX7_faultOf_59 (by decide) ?_
              refine lv_istore (lv' := [(5, .int (1 : Int32)), (2, .int (x6_l2 ||| ((1 : Int32) <<< ((X7_letter (v_sign j6)) &&& 31)))), (6, .int (X7_letter (v_sign j6))), (4, .int (v_sign j6)), (0, .ref a_this), (1, .int x6_l1), (3, .int (nI j6))]) hx hb dX7_faultOf_60 hl (by decide) rfl (fun ls hl => ?_)
              refine lv_goto (tgt := 123) hx hb dX7_faultOf_62 (by decide) ?_
              exact C123 (x6_l2 ||| ((1 : Int32) <<< ((X7_letter (v_sign j6)) &&& 31))) (1 : Int32) (by simp only [X7_faultOf_m123_l2, if_neg c11, if_neg c35, if_neg c40, if_pos c49]) (by simp only [X7_faultOf_m123_l5, if_neg c11, if_neg c35, if_neg c40, if_pos c49]) _ _ hP hD hS ls (lv_sub hl [4, 1, 6, 0] rfl)
  exact L6 62 0 (0 : Int32) (0 : Int32) (by omega) (Nat.zero_le _) rfl _ _ hP hD hS ls (lv_sub hl [3, 2, 1, 0] rfl)

def X7_fault (v_signs : Int32) (v_sign : Nat → Int32) : Int32 := (X7_faultOf v_signs v_sign)
abbrev rX7_fault : Room := { frames := 2, cells := 0, slots := 0, locals := 46 }
set_option maxHeartbeats 8000000 in
set_option maxRecDepth 100000 in
theorem k_X7_fault (l : Launch) (G : fxE) (hG : fxGood G) (D : va_G) (cI cJ cZ cH : ClassId) (a_start a_mass a_rows a_told a_sign a_kept a_ended a_cell a_loss a_read a_times a_gains a_image a_isKept a_this : Nat) (v_signs : Int32) (v_many : Int32) (v_left : Int64) (v_rime : Int64) (v_frost : Int64) (v_began : Int32) (v_last : Int32) (v_rounds : Int32) (v_seed : Int32) (v_sign : Nat → Int32) (h0 : 0 ≤ v_signs) (h1 : v_signs ≤ 60) : MetI l yX7_fault wsX7_fault rX7_fault G D (tyL cI cJ cZ cH) [.ref a_this] [(a_this, .inr (7, [.ref a_start, .ref a_mass, .ref a_rows, .ref a_told, .int v_signs, .ref a_sign, .int v_many, .ref a_kept, .ref a_ended, .ref a_cell, .ref a_loss, .long v_left, .long v_rime, .long v_frost, .int v_began, .int v_last, .int v_rounds, .ref a_read, .ref a_times, .ref a_gains, .int v_seed, .ref a_image, .ref a_isKept])), (a_sign, .inl (cI, 60, .inl v_sign))] (X7_fault v_signs v_sign) [(a_this, .inr (7, [.ref a_start, .ref a_mass, .ref a_rows, .ref a_told, .int v_signs, .ref a_sign, .int v_many, .ref a_kept, .ref a_ended, .ref a_cell, .ref a_loss, .long v_left, .long v_rime, .long v_frost, .int v_began, .int v_last, .int v_rounds, .ref a_read, .ref a_times, .ref a_gains, .int v_seed, .ref a_image, .ref a_isKept])), (a_sign, .inl (cI, 60, .inl v_sign))] := by
  refine fx_startI (cc := cX7_fault) (n := 1) (rt := .int) (plainFor_of_name (by decide)) rfl (Nat.le_of_ble_eq_true rfl) rfl ?_
  intro p e s m args below meth c A Q ls hx hb hml hown hts hA hGs hK hP hD hS hl hret
  have hl : lv_has ls 1 [(0, .ref a_this)] := hl
  refine lv_aload_n hx hb dX7_fault_0 rfl (lv_at hl 0 rfl) ?_
  refine fx_callVI (As := []) (rest := []) (wr := []) ⟨hx, hb, hml, hown, hts⟩ hG hGs (k_X7_faultOf l G hG D cI cJ cZ cH a_start a_mass a_rows a_told a_sign a_kept a_ended a_cell a_loss a_read a_times a_gains a_image a_isKept a_this v_signs v_many v_left v_rime v_frost v_began v_last v_rounds v_seed v_sign  (by assumption) (by assumption)) (cwV 0 hts gX7_fault_X7_faultOf rfl rfl rfl (by decide +kernel) ⟨by decide, by decide⟩) hK hP hD hS hA [0, 1] [] rfl rfl (by decide) (by decide) (by decide) 0 rfl rfl rfl rfl hl.1 (Nat.le_of_ble_eq_true rfl) dX7_fault_1 (Nat.zero_le _) (Nat.zero_le _) (fun H locs hP hD hS => ?_)
  have hP : va_P D vwCl [(a_this, .inr (7, [.ref a_start, .ref a_mass, .ref a_rows, .ref a_told, .int v_signs, .ref a_sign, .int v_many, .ref a_kept, .ref a_ended, .ref a_cell, .ref a_loss, .long v_left, .long v_rime, .long v_frost, .int v_began, .int v_last, .int v_rounds, .ref a_read, .ref a_times, .ref a_gains, .int v_seed, .ref a_image, .ref a_isKept])), (a_sign, .inl (cI, 60, .inl v_sign))] H := hP
  have hD : va_D A [(a_this, .inr (7, [.ref a_start, .ref a_mass, .ref a_rows, .ref a_told, .int v_signs, .ref a_sign, .int v_many, .ref a_kept, .ref a_ended, .ref a_cell, .ref a_loss, .long v_left, .long v_rime, .long v_frost, .int v_began, .int v_last, .int v_rounds, .ref a_read, .ref a_times, .ref a_gains, .int v_seed, .ref a_image, .ref a_isKept])), (a_sign, .inl (cI, 60, .inl v_sign))] := hD
  exact hret _ _ _ _ _ _ dX7_fault_4 (by simp only [X7_fault]) rfl hP hD hS

def X7_tried (v_many : Int32) (v_kept : Nat → Int32) (v_ended : Nat → Int32) (p_i : Int32) (p_what : Int32) : Int32 := (if (X7_in p_i (0 : Int32) (v_many - (1 : Int32))) = 0 then ((-1) : Int32) else (if p_what = 0 then (v_kept p_i.toNatClampNeg) else (if p_what = (1 : Int32) then (v_ended p_i.toNatClampNeg) else ((-2) : Int32))))
abbrev rX7_tried : Room := { frames := 1, cells := 0, slots := 0, locals := 22 }
theorem n_X7_tried_X7 : ∀ w ∈ wsX70, w ∈ wsX7_tried := by decide +kernel
set_option maxHeartbeats 8000000 in
set_option maxRecDepth 100000 in
theorem k_X7_tried (l : Launch) (G : fxE) (hG : fxGood G) (D : va_G) (cI cJ cZ cH : ClassId) (a_start a_mass a_rows a_told a_sign a_kept a_ended a_cell a_loss a_read a_times a_gains a_image a_isKept a_this : Nat) (v_signs : Int32) (v_many : Int32) (v_left : Int64) (v_rime : Int64) (v_frost : Int64) (v_began : Int32) (v_last : Int32) (v_rounds : Int32) (v_seed : Int32) (v_kept : Nat → Int32) (v_ended : Nat → Int32) (p_i : Int32) (p_what : Int32) (h0 : 0 ≤ v_many) (h1 : v_many ≤ 20) : MetI l yX7_tried wsX7_tried rX7_tried G D (tyL cI cJ cZ cH) [.ref a_this, .int p_i, .int p_what] [(a_this, .inr (7, [.ref a_start, .ref a_mass, .ref a_rows, .ref a_told, .int v_signs, .ref a_sign, .int v_many, .ref a_kept, .ref a_ended, .ref a_cell, .ref a_loss, .long v_left, .long v_rime, .long v_frost, .int v_began, .int v_last, .int v_rounds, .ref a_read, .ref a_times, .ref a_gains, .int v_seed, .ref a_image, .ref a_isKept])), (a_kept, .inl (cI, 20, .inl v_kept)), (a_ended, .inl (cI, 20, .inl v_ended))] (X7_tried v_many v_kept v_ended p_i p_what) [(a_this, .inr (7, [.ref a_start, .ref a_mass, .ref a_rows, .ref a_told, .int v_signs, .ref a_sign, .int v_many, .ref a_kept, .ref a_ended, .ref a_cell, .ref a_loss, .long v_left, .long v_rime, .long v_frost, .int v_began, .int v_last, .int v_rounds, .ref a_read, .ref a_times, .ref a_gains, .int v_seed, .ref a_image, .ref a_isKept])), (a_kept, .inl (cI, 20, .inl v_kept)), (a_ended, .inl (cI, 20, .inl v_ended))] := by
  refine fx_startI (cc := cX7_tried) (n := 3) (rt := .int) (plainFor_of_name (by decide)) rfl (Nat.le_of_ble_eq_true rfl) rfl ?_
  intro p e s m args below meth c A Q ls hx hb hml hown hts hA hGs hK hP hD hS hl hret
  have hl : lv_has ls 3 [(0, .ref a_this), (1, .int p_i), (2, .int p_what)] := hl
  have iX7 := n_X7_tried_X7
  have f184 := hts (.fieldLink RX7 184 "FrozeFirstModel" "many" "I") (by decide +kernel)
  have f28 := hts (.fieldLink RX7 28 "FrozeFirstModel" "ended" "[I") (by decide +kernel)
  have f25 := hts (.fieldLink RX7 25 "FrozeFirstModel" "kept" "[I") (by decide +kernel)
  refine lv_iload_n hx hb dX7_tried_0 rfl (lv_at hl 1 rfl) ?_
  refine lv_iconst (v := 0) hx hb dX7_tried_1 (by decide) ?_
  refine lv_aload_n hx hb dX7_tried_2 rfl (lv_at hl 0 rfl) ?_
  refine va_get (D := D) (ci := 7) (v := .int v_many) (C := RX7) (T := TX7) (N := 23) hx hb hts iX7 hown hK hP 0 rfl rfl 6 (by decide) f184 (fun _ h9 => h9) rfl dX7_tried_3 ?_
  refine lv_iconst (v := 1) hx hb dX7_tried_6 (by decide) ?_
  refine lv_isub hx hb dX7_tried_7 ?_
  refine fx_callSI (As := [.int p_i, .int (0 : Int32), .int (v_many - (1 : Int32))]) (rest := []) (wr := [(a_this, .inr (7, [.ref a_start, .ref a_mass, .ref a_rows, .ref a_told, .int v_signs, .ref a_sign, .int v_many, .ref a_kept, .ref a_ended, .ref a_cell, .ref a_loss, .long v_left, .long v_rime, .long v_frost, .int v_began, .int v_last, .int v_rounds, .ref a_read, .ref a_times, .ref a_gains, .int v_seed, .ref a_image, .ref a_isKept])), (a_kept, .inl (cI, 20, .inl v_kept)), (a_ended, .inl (cI, 20, .inl v_ended))]) ⟨hx, hb, hml, hown, hts⟩ hG hGs (k_X7_in l G hG D cI cJ cZ cH p_i (0 : Int32) (v_many - (1 : Int32))  ) (va_cwS 3 hts gX7_tried_X7_in rfl rfl rfl (by decide +kernel) ⟨by decide, by decide⟩) hK hP hD hS hA [] [0, 1, 2] rfl rfl (by decide) (by decide) (by decide) rfl rfl hl.1 (Nat.le_of_ble_eq_true rfl) dX7_tried_8 (Nat.zero_le _) (Nat.zero_le _) (fun H locs hP hD hS => ?_)
  have hP : va_P D vwCl [(a_this, .inr (7, [.ref a_start, .ref a_mass, .ref a_rows, .ref a_told, .int v_signs, .ref a_sign, .int v_many, .ref a_kept, .ref a_ended, .ref a_cell, .ref a_loss, .long v_left, .long v_rime, .long v_frost, .int v_began, .int v_last, .int v_rounds, .ref a_read, .ref a_times, .ref a_gains, .int v_seed, .ref a_image, .ref a_isKept])), (a_kept, .inl (cI, 20, .inl v_kept)), (a_ended, .inl (cI, 20, .inl v_ended))] H := hP
  have hD : va_D A [(a_this, .inr (7, [.ref a_start, .ref a_mass, .ref a_rows, .ref a_told, .int v_signs, .ref a_sign, .int v_many, .ref a_kept, .ref a_ended, .ref a_cell, .ref a_loss, .long v_left, .long v_rime, .long v_frost, .int v_began, .int v_last, .int v_rounds, .ref a_read, .ref a_times, .ref a_gains, .int v_seed, .ref a_image, .ref a_isKept])), (a_kept, .inl (cI, 20, .inl v_kept)), (a_ended, .inl (cI, 20, .inl v_ended))] := hD
  refine lv_if_ne (tgt := 16) hx hb dX7_tried_11 (by decide) (fun c11 => ?_) (fun c11 => ?_)
  · refine lv_iload_n hx hb dX7_tried_16 rfl (lv_at hl 2 rfl) ?_
    refine lv_if_ne (tgt := 29) hx hb dX7_tried_17 (by decide) (fun c17 => ?_) (fun c17 => ?_)
    · refine lv_iload_n hx hb dX7_tried_29 rfl (lv_at hl 2 rfl) ?_
      refine lv_iconst (v := 1) hx hb dX7_tried_30 (by decide) ?_
      refine lv_icmp_ne (tgt := 43) hx hb dX7_tried_31 (by decide) (fun c31 => ?_) (fun c31 => ?_)
      · refine lv_bipush (v := (-2)) hx hb dX7_tried_43 (by decide) ?_
        exact hret _ _ _ _ _ _ dX7_tried_45 (by simp only [X7_tried, if_neg c11, if_neg c17, if_neg c31]) rfl hP hD hS
      · refine lv_aload_n hx hb dX7_tried_34 rfl (lv_at hl 0 rfl) ?_
        refine va_get (D := D) (ci := 7) (v := .ref a_ended) (C := RX7) (T := TX7) (N := 23) hx hb hts iX7 hown hK hP 0 rfl rfl 8 (by decide) f28 (fun _ h9 => h9) rfl dX7_tried_35 ?_
        refine lv_iload_n hx hb dX7_tried_38 rfl (lv_at hl 1 rfl) ?_
        refine va_iald hx hb hK hP 2 0 rfl rfl (fy_trd h0 h1 c11) dX7_tried_39 ?_
        refine lv_goto (tgt := 45) hx hb dX7_tried_40 (by decide) ?_
        exact hret _ _ _ _ _ _ dX7_tried_45 (by simp only [X7_tried, if_neg c11, if_neg c17, if_pos c31]) rfl hP hD hS
    · refine lv_aload_n hx hb dX7_tried_20 rfl (lv_at hl 0 rfl) ?_
      refine va_get (D := D) (ci := 7) (v := .ref a_kept) (C := RX7) (T := TX7) (N := 23) hx hb hts iX7 hown hK hP 0 rfl rfl 7 (by decide) f25 (fun _ h9 => h9) rfl dX7_tried_21 ?_
      refine lv_iload_n hx hb dX7_tried_24 rfl (lv_at hl 1 rfl) ?_
      refine va_iald hx hb hK hP 1 0 rfl rfl (fy_trd h0 h1 c11) dX7_tried_25 ?_
      refine lv_goto (tgt := 45) hx hb dX7_tried_26 (by decide) ?_
      exact hret _ _ _ _ _ _ dX7_tried_45 (by simp only [X7_tried, if_neg c11, if_pos c17]) rfl hP hD hS
  · refine lv_iconst (v := (-1)) hx hb dX7_tried_14 (by decide) ?_
    exact hret _ _ _ _ _ _ dX7_tried_15 (by simp only [X7_tried, if_pos c11]) rfl hP hD hS

def X7_said_m67_s0 (v_ended : Nat → Int32) (j26 : Nat) (j38 : Nat) : Int32 := (if (v_ended j26) = (v_ended j38) then (1 : Int32) else (0 : Int32))
def X7_said_m103_s2 (p_what : Int32) : Int32 := (if p_what = (1 : Int32) then (1 : Int32) else (0 : Int32))
def X7_said_m111_s1 (v_kept : Nat → Int32) (v_ended : Nat → Int32) (p_cause : Int32) (p_what : Int32) (j26 : Nat) (j38 : Nat) : Int32 := (if ((v_kept j26) ^^^ (v_kept j38)) = ((1 : Int32) <<< (p_cause &&& 31)) then (if (X7_said_m67_s0 v_ended j26 j38) = (X7_said_m103_s2 p_what) then (1 : Int32) else (0 : Int32)) else (0 : Int32))
def X7_said_L38 (v_kept : Nat → Int32) (v_ended : Nat → Int32) (p_cause : Int32) (p_what : Int32) (j26 : Nat) (x26_l3 : Int32) : Nat → (Int32)
  | 0 => x26_l3
  | j38 + 1 => ((X7_said_L38 v_kept v_ended p_cause p_what j26 x26_l3 j38) + (X7_said_m111_s1 v_kept v_ended p_cause p_what j26 j38))
def X7_said_L26 (v_kept : Nat → Int32) (v_ended : Nat → Int32) (p_cause : Int32) (p_what : Int32) : Nat → (Int32)
  | 0 => (0 : Int32)
  | j26 + 1 => (X7_said_L38 v_kept v_ended p_cause p_what j26 (X7_said_L26 v_kept v_ended p_cause p_what j26) j26)
def X7_said (v_many : Int32) (v_kept : Nat → Int32) (v_ended : Nat → Int32) (p_cause : Int32) (p_what : Int32) : Int32 := (if (X7_in p_cause (0 : Int32) (3 : Int32)) = 0 then ((-1) : Int32) else (if (X7_isTwo p_what) = 0 then ((-2) : Int32) else (X7_said_L26 v_kept v_ended p_cause p_what v_many.toNatClampNeg)))
abbrev rX7_said : Room := { frames := 2, cells := 0, slots := 0, locals := 42 }
theorem n_X7_said_X7 : ∀ w ∈ wsX70, w ∈ wsX7_said := by decide +kernel
set_option maxHeartbeats 8000000 in
set_option maxRecDepth 100000 in
theorem k_X7_said (l : Launch) (G : fxE) (hG : fxGood G) (D : va_G) (cI cJ cZ cH : ClassId) (a_start a_mass a_rows a_told a_sign a_kept a_ended a_cell a_loss a_read a_times a_gains a_image a_isKept a_this : Nat) (v_signs : Int32) (v_many : Int32) (v_left : Int64) (v_rime : Int64) (v_frost : Int64) (v_began : Int32) (v_last : Int32) (v_rounds : Int32) (v_seed : Int32) (v_kept : Nat → Int32) (v_ended : Nat → Int32) (p_cause : Int32) (p_what : Int32) (h0 : 0 ≤ v_many) (h1 : v_many ≤ 20) : MetI l yX7_said wsX7_said rX7_said G D (tyL cI cJ cZ cH) [.ref a_this, .int p_cause, .int p_what] [(a_this, .inr (7, [.ref a_start, .ref a_mass, .ref a_rows, .ref a_told, .int v_signs, .ref a_sign, .int v_many, .ref a_kept, .ref a_ended, .ref a_cell, .ref a_loss, .long v_left, .long v_rime, .long v_frost, .int v_began, .int v_last, .int v_rounds, .ref a_read, .ref a_times, .ref a_gains, .int v_seed, .ref a_image, .ref a_isKept])), (a_kept, .inl (cI, 20, .inl v_kept)), (a_ended, .inl (cI, 20, .inl v_ended))] (X7_said v_many v_kept v_ended p_cause p_what) [(a_this, .inr (7, [.ref a_start, .ref a_mass, .ref a_rows, .ref a_told, .int v_signs, .ref a_sign, .int v_many, .ref a_kept, .ref a_ended, .ref a_cell, .ref a_loss, .long v_left, .long v_rime, .long v_frost, .int v_began, .int v_last, .int v_rounds, .ref a_read, .ref a_times, .ref a_gains, .int v_seed, .ref a_image, .ref a_isKept])), (a_kept, .inl (cI, 20, .inl v_kept)), (a_ended, .inl (cI, 20, .inl v_ended))] := by
  refine fx_startI (cc := cX7_said) (n := 7) (rt := .int) (plainFor_of_name (by decide)) rfl (Nat.le_of_ble_eq_true rfl) rfl ?_
  intro p e s m args below meth c A Q ls hx hb hml hown hts hA hGs hK hP hD hS hl hret
  have hl : lv_has ls 7 [(0, .ref a_this), (1, .int p_cause), (2, .int p_what)] := hl
  have iX7 := n_X7_said_X7
  have f184 := hts (.fieldLink RX7 184 "FrozeFirstModel" "many" "I") (by decide +kernel)
  have f28 := hts (.fieldLink RX7 28 "FrozeFirstModel" "ended" "[I") (by decide +kernel)
  have f25 := hts (.fieldLink RX7 25 "FrozeFirstModel" "kept" "[I") (by decide +kernel)
  have e_many := fx_tn h0
  have b_many := fx_tb (N := 20) (n := 20) rfl (by decide) h0 h1
  refine lv_iload_n hx hb dX7_said_0 rfl (lv_at hl 1 rfl) ?_
  refine lv_iconst (v := 0) hx hb dX7_said_1 (by decide) ?_
  refine lv_iconst (v := 3) hx hb dX7_said_2 (by decide) ?_
  refine fx_callSI (As := [.int p_cause, .int (0 : Int32), .int (3 : Int32)]) (rest := []) (wr := [(a_this, .inr (7, [.ref a_start, .ref a_mass, .ref a_rows, .ref a_told, .int v_signs, .ref a_sign, .int v_many, .ref a_kept, .ref a_ended, .ref a_cell, .ref a_loss, .long v_left, .long v_rime, .long v_frost, .int v_began, .int v_last, .int v_rounds, .ref a_read, .ref a_times, .ref a_gains, .int v_seed, .ref a_image, .ref a_isKept])), (a_kept, .inl (cI, 20, .inl v_kept)), (a_ended, .inl (cI, 20, .inl v_ended))]) ⟨hx, hb, hml, hown, hts⟩ hG hGs (k_X7_in l G hG D cI cJ cZ cH p_cause (0 : Int32) (3 : Int32)  ) (va_cwS 3 hts gX7_said_X7_in rfl rfl rfl (by decide +kernel) ⟨by decide, by decide⟩) hK hP hD hS hA [] [0, 1, 2] rfl rfl (by decide) (by decide) (by decide) rfl rfl hl.1 (Nat.le_of_ble_eq_true rfl) dX7_said_3 (Nat.zero_le _) (Nat.zero_le _) (fun H locs hP hD hS => ?_)
  have hP : va_P D vwCl [(a_this, .inr (7, [.ref a_start, .ref a_mass, .ref a_rows, .ref a_told, .int v_signs, .ref a_sign, .int v_many, .ref a_kept, .ref a_ended, .ref a_cell, .ref a_loss, .long v_left, .long v_rime, .long v_frost, .int v_began, .int v_last, .int v_rounds, .ref a_read, .ref a_times, .ref a_gains, .int v_seed, .ref a_image, .ref a_isKept])), (a_kept, .inl (cI, 20, .inl v_kept)), (a_ended, .inl (cI, 20, .inl v_ended))] H := hP
  have hD : va_D A [(a_this, .inr (7, [.ref a_start, .ref a_mass, .ref a_rows, .ref a_told, .int v_signs, .ref a_sign, .int v_many, .ref a_kept, .ref a_ended, .ref a_cell, .ref a_loss, .long v_left, .long v_rime, .long v_frost, .int v_began, .int v_last, .int v_rounds, .ref a_read, .ref a_times, .ref a_gains, .int v_seed, .ref a_image, .ref a_isKept])), (a_kept, .inl (cI, 20, .inl v_kept)), (a_ended, .inl (cI, 20, .inl v_ended))] := hD
  refine lv_if_ne (tgt := 11) hx hb dX7_said_6 (by decide) (fun c6 => ?_) (fun c6 => ?_)
  · refine lv_iload_n hx hb dX7_said_11 rfl (lv_at hl 2 rfl) ?_
    refine fx_callSI (As := [.int p_what]) (rest := []) (wr := [(a_this, .inr (7, [.ref a_start, .ref a_mass, .ref a_rows, .ref a_told, .int v_signs, .ref a_sign, .int v_many, .ref a_kept, .ref a_ended, .ref a_cell, .ref a_loss, .long v_left, .long v_rime, .long v_frost, .int v_began, .int v_last, .int v_rounds, .ref a_read, .ref a_times, .ref a_gains, .int v_seed, .ref a_image, .ref a_isKept])), (a_kept, .inl (cI, 20, .inl v_kept)), (a_ended, .inl (cI, 20, .inl v_ended))]) ⟨hx, hb, hml, hown, hts⟩ hG hGs (k_X7_isTwo l G hG D cI cJ cZ cH p_what  ) (va_cwS 1 hts gX7_said_X7_isTwo rfl rfl rfl (by decide +kernel) ⟨by decide, by decide⟩) hK hP hD hS hA [] [0, 1, 2] rfl rfl (by decide) (by decide) (by decide) rfl rfl hl.1 (Nat.le_of_ble_eq_true rfl) dX7_said_12 (Nat.zero_le _) (Nat.zero_le _) (fun H locs hP hD hS => ?_)
    have hP : va_P D vwCl [(a_this, .inr (7, [.ref a_start, .ref a_mass, .ref a_rows, .ref a_told, .int v_signs, .ref a_sign, .int v_many, .ref a_kept, .ref a_ended, .ref a_cell, .ref a_loss, .long v_left, .long v_rime, .long v_frost, .int v_began, .int v_last, .int v_rounds, .ref a_read, .ref a_times, .ref a_gains, .int v_seed, .ref a_image, .ref a_isKept])), (a_kept, .inl (cI, 20, .inl v_kept)), (a_ended, .inl (cI, 20, .inl v_ended))] H := hP
    have hD : va_D A [(a_this, .inr (7, [.ref a_start, .ref a_mass, .ref a_rows, .ref a_told, .int v_signs, .ref a_sign, .int v_many, .ref a_kept, .ref a_ended, .ref a_cell, .ref a_loss, .long v_left, .long v_rime, .long v_frost, .int v_began, .int v_last, .int v_rounds, .ref a_read, .ref a_times, .ref a_gains, .int v_seed, .ref a_image, .ref a_isKept])), (a_kept, .inl (cI, 20, .inl v_kept)), (a_ended, .inl (cI, 20, .inl v_ended))] := hD
    refine lv_if_ne (tgt := 21) hx hb dX7_said_15 (by decide) (fun c15 => ?_) (fun c15 => ?_)
    · refine lv_iconst (v := 0) hx hb dX7_said_21 (by decide) ?_
      refine lv_istore_n (lv' := [(3, .int (0 : Int32)), (0, .ref a_this), (1, .int p_cause), (2, .int p_what)]) hx hb dX7_said_22 rfl hl (by decide) rfl (fun ls hl => ?_)
      refine lv_iconst (v := 0) hx hb dX7_said_23 (by decide) ?_
      refine lv_istore (lv' := [(4, .int (0 : Int32)), (3, .int (0 : Int32)), (0, .ref a_this), (1, .int p_cause), (2, .int p_what)]) hx hb dX7_said_24 hl (by decide) rfl (fun ls hl => ?_)
      have L26 : ∀ (n j26 : Nat) (x26_l3 : Int32), j26 ≤ v_many.toNatClampNeg → v_many.toNatClampNeg + 1 ≤ j26 + n → X7_said_L26 v_kept v_ended p_cause p_what j26 = x26_l3 → ∀ (H : Heap) (locs : List Loc), va_P D vwCl [(a_this, .inr (7, [.ref a_start, .ref a_mass, .ref a_rows, .ref a_told, .int v_signs, .ref a_sign, .int v_many, .ref a_kept, .ref a_ended, .ref a_cell, .ref a_loss, .long v_left, .long v_rime, .long v_frost, .int v_began, .int v_last, .int v_rounds, .ref a_read, .ref a_times, .ref a_gains, .int v_seed, .ref a_image, .ref a_isKept])), (a_kept, .inl (cI, 20, .inl v_kept)), (a_ended, .inl (cI, 20, .inl v_ended))] H → va_D A [(a_this, .inr (7, [.ref a_start, .ref a_mass, .ref a_rows, .ref a_told, .int v_signs, .ref a_sign, .int v_many, .ref a_kept, .ref a_ended, .ref a_cell, .ref a_loss, .long v_left, .long v_rime, .long v_frost, .int v_began, .int v_last, .int v_rounds, .ref a_read, .ref a_times, .ref a_gains, .int v_seed, .ref a_image, .ref a_isKept])), (a_kept, .inl (cI, 20, .inl v_kept)), (a_ended, .inl (cI, 20, .inl v_ended))] → va_S A s.heap H locs → ∀ (ls : Array Slot), lv_has ls 7 [(0, .ref a_this), (1, .int p_cause), (2, .int p_what), (3, .int x26_l3), (4, .int (nI j26))] → W p l e rX7_said s m args below meth c H locs 0 0 Q (F0 m 26 ls []) := by
        intro n
        induction n with
        | zero => intro j26 x26_l3 h1 h2; exact absurd h2 (by omega)
        | succ n ih26 =>
          intro j26 x26_l3 hj26 hn26  hx26 H locs hP hD hS ls hl
          refine lv_iload hx hb dX7_said_26 (lv_at hl 4 rfl) ?_
          refine lv_aload_n hx hb dX7_said_28 rfl (lv_at hl 0 rfl) ?_
          refine va_get (D := D) (ci := 7) (v := .int v_many) (C := RX7) (T := TX7) (N := 23) hx hb hts iX7 hown hK hP 0 rfl rfl 6 (by decide) f184 (fun _ h9 => h9) rfl dX7_said_29 ?_
          refine lv_icmp_ge (tgt := 125) hx hb dX7_said_32 (by decide) (fun c32 => ?_) (fun c32 => ?_)
          · have n32 : v_many.toNatClampNeg ≤ j26 := (fx_leN (x := v_many) (y := (nI j26)) (a := v_many.toNatClampNeg) (b := j26) e_many rfl (by omega) (by omega)).mp c32
            have e26 : v_many.toNatClampNeg = j26 := by omega
            subst e26
            subst hx26
            have hl := lv_sub (l' := [(3, .int (X7_said_L26 v_kept v_ended p_cause p_what v_many.toNatClampNeg))]) hl [3] rfl
            have hP : va_P D vwCl [(a_this, .inr (7, [.ref a_start, .ref a_mass, .ref a_rows, .ref a_told, .int v_signs, .ref a_sign, .int v_many, .ref a_kept, .ref a_ended, .ref a_cell, .ref a_loss, .long v_left, .long v_rime, .long v_frost, .int v_began, .int v_last, .int v_rounds, .ref a_read, .ref a_times, .ref a_gains, .int v_seed, .ref a_image, .ref a_isKept])), (a_kept, .inl (cI, 20, .inl v_kept)), (a_ended, .inl (cI, 20, .inl v_ended))] H := hP
            have hD : va_D A [(a_this, .inr (7, [.ref a_start, .ref a_mass, .ref a_rows, .ref a_told, .int v_signs, .ref a_sign, .int v_many, .ref a_kept, .ref a_ended, .ref a_cell, .ref a_loss, .long v_left, .long v_rime, .long v_frost, .int v_began, .int v_last, .int v_rounds, .ref a_read, .ref a_times, .ref a_gains, .int v_seed, .ref a_image, .ref a_isKept])), (a_kept, .inl (cI, 20, .inl v_kept)), (a_ended, .inl (cI, 20, .inl v_ended))] := hD
            refine lv_iload_n hx hb dX7_said_125 rfl (lv_at hl 0 rfl) ?_
            exact hret _ _ _ _ _ _ dX7_said_126 (by simp only [X7_said, if_neg c6, if_neg c15, if_pos c32]) rfl hP hD hS
          · have n32 : ¬ (v_many.toNatClampNeg ≤ j26) := fun h9 => c32 ((fx_leN (x := v_many) (y := (nI j26)) (a := v_many.toNatClampNeg) (b := j26) e_many rfl (by omega) (by omega)).mpr h9)
            refine lv_iconst (v := 0) hx hb dX7_said_35 (by decide) ?_
            refine lv_istore (lv' := [(5, .int (0 : Int32)), (0, .ref a_this), (1, .int p_cause), (2, .int p_what), (3, .int x26_l3), (4, .int (nI j26))]) hx hb dX7_said_36 hl (by decide) rfl (fun ls hl => ?_)
            have L38 : ∀ (n j38 : Nat) (x38_l3 : Int32), j38 ≤ j26 → j26 + 1 ≤ j38 + n → X7_said_L38 v_kept v_ended p_cause p_what j26 x26_l3 j38 = x38_l3 → ∀ (H : Heap) (locs : List Loc), va_P D vwCl [(a_this, .inr (7, [.ref a_start, .ref a_mass, .ref a_rows, .ref a_told, .int v_signs, .ref a_sign, .int v_many, .ref a_kept, .ref a_ended, .ref a_cell, .ref a_loss, .long v_left, .long v_rime, .long v_frost, .int v_began, .int v_last, .int v_rounds, .ref a_read, .ref a_times, .ref a_gains, .int v_seed, .ref a_image, .ref a_isKept])), (a_kept, .inl (cI, 20, .inl v_kept)), (a_ended, .inl (cI, 20, .inl v_ended))] H → va_D A [(a_this, .inr (7, [.ref a_start, .ref a_mass, .ref a_rows, .ref a_told, .int v_signs, .ref a_sign, .int v_many, .ref a_kept, .ref a_ended, .ref a_cell, .ref a_loss, .long v_left, .long v_rime, .long v_frost, .int v_began, .int v_last, .int v_rounds, .ref a_read, .ref a_times, .ref a_gains, .int v_seed, .ref a_image, .ref a_isKept])), (a_kept, .inl (cI, 20, .inl v_kept)), (a_ended, .inl (cI, 20, .inl v_ended))] → va_S A s.heap H locs → ∀ (ls : Array Slot), lv_has ls 7 [(0, .ref a_this), (1, .int p_cause), (2, .int p_what), (3, .int x38_l3), (4, .int (nI j26)), (5, .int (nI j38))] → W p l e rX7_said s m args below meth c H locs 0 0 Q (F0 m 38 ls []) := by
              intro n
              induction n with
              | zero => intro j38 x38_l3 h1 h2; exact absurd h2 (by omega)
              | succ n ih38 =>
                intro j38 x38_l3 hj38 hn38  hx38 H locs hP hD hS ls hl
                refine lv_iload hx hb dX7_said_38 (lv_at hl 5 rfl) ?_
                refine lv_iload hx hb dX7_said_40 (lv_at hl 4 rfl) ?_
                refine lv_icmp_ge (tgt := 119) hx hb dX7_said_42 (by decide) (fun c42 => ?_) (fun c42 => ?_)
                · have n42 : j26 ≤ j38 := (fx_leN (x := (nI j26)) (y := (nI j38)) (a := j26) (b := j38) rfl rfl (by omega) (by omega)).mp c42
                  have e38 : j26 = j38 := by omega
                  subst e38
                  subst hx38
                  have hl := lv_sub (l' := [(0, .ref a_this), (1, .int p_cause), (2, .int p_what), (3, .int (X7_said_L38 v_kept v_ended p_cause p_what j26 x26_l3 j26)), (4, .int (nI j26))]) hl [0, 1, 2, 3, 4] rfl
                  have hP : va_P D vwCl [(a_this, .inr (7, [.ref a_start, .ref a_mass, .ref a_rows, .ref a_told, .int v_signs, .ref a_sign, .int v_many, .ref a_kept, .ref a_ended, .ref a_cell, .ref a_loss, .long v_left, .long v_rime, .long v_frost, .int v_began, .int v_last, .int v_rounds, .ref a_read, .ref a_times, .ref a_gains, .int v_seed, .ref a_image, .ref a_isKept])), (a_kept, .inl (cI, 20, .inl v_kept)), (a_ended, .inl (cI, 20, .inl v_ended))] H := hP
                  have hD : va_D A [(a_this, .inr (7, [.ref a_start, .ref a_mass, .ref a_rows, .ref a_told, .int v_signs, .ref a_sign, .int v_many, .ref a_kept, .ref a_ended, .ref a_cell, .ref a_loss, .long v_left, .long v_rime, .long v_frost, .int v_began, .int v_last, .int v_rounds, .ref a_read, .ref a_times, .ref a_gains, .int v_seed, .ref a_image, .ref a_isKept])), (a_kept, .inl (cI, 20, .inl v_kept)), (a_ended, .inl (cI, 20, .inl v_ended))] := hD
                  refine lv_iinc (v := nI (j26 + 1)) (lv' := [(4, .int (nI (j26 + 1))), (0, .ref a_this), (1, .int p_cause), (2, .int p_what), (3, .int (X7_said_L38 v_kept v_ended p_cause p_what j26 x26_l3 j26))]) hx hb dX7_said_119 hl (k := 4) rfl (fx_inc _ 1) (by decide) rfl (fun ls hl => ?_)
                  refine lv_goto (tgt := 26) hx hb dX7_said_122 (by decide) ?_
                  exact ih26 (j26 + 1) (X7_said_L38 v_kept v_ended p_cause p_what j26 x26_l3 j26) (by omega) (by omega)  (by simp only [X7_said_L26, hx26, if_neg c6, if_neg c15, if_neg c32, if_pos c42]) _ _ hP hD hS ls (lv_sub hl [1, 2, 3, 4, 0] rfl)
                · have n42 : ¬ (j26 ≤ j38) := fun h9 => c42 ((fx_leN (x := (nI j26)) (y := (nI j38)) (a := j26) (b := j38) rfl rfl (by omega) (by omega)).mpr h9)
                  refine lv_aload_n hx hb dX7_said_45 rfl (lv_at hl 0 rfl) ?_
                  refine va_get (D := D) (ci := 7) (v := .ref a_ended) (C := RX7) (T := TX7) (N := 23) hx hb hts iX7 hown hK hP 0 rfl rfl 8 (by decide) f28 (fun _ h9 => h9) rfl dX7_said_46 ?_
                  refine lv_iload hx hb dX7_said_49 (lv_at hl 4 rfl) ?_
                  refine fx_iald hx hb hK hP 2 0 rfl rfl j26 rfl (by omega) (by decide) dX7_said_51 ?_
                  refine lv_aload_n hx hb dX7_said_52 rfl (lv_at hl 0 rfl) ?_
                  refine va_get (D := D) (ci := 7) (v := .ref a_ended) (C := RX7) (T := TX7) (N := 23) hx hb hts iX7 hown hK hP 0 rfl rfl 8 (by decide) f28 (fun _ h9 => h9) rfl dX7_said_53 ?_
                  refine lv_iload hx hb dX7_said_56 (lv_at hl 5 rfl) ?_
                  refine fx_iald hx hb hK hP 2 0 rfl rfl j38 rfl (by omega) (by decide) dX7_said_58 ?_
                  have C67 : ∀ (x67_s0 : Int32), (X7_said_m67_s0 v_ended j26 j38) = x67_s0 → ∀ (H : Heap) (locs : List Loc), va_P D vwCl [(a_this, .inr (7, [.ref a_start, .ref a_mass, .ref a_rows, .ref a_told, .int v_signs, .ref a_sign, .int v_many, .ref a_kept, .ref a_ended, .ref a_cell, .ref a_loss, .long v_left, .long v_rime, .long v_frost, .int v_began, .int v_last, .int v_rounds, .ref a_read, .ref a_times, .ref a_gains, .int v_seed, .ref a_image, .ref a_isKept])), (a_kept, .inl (cI, 20, .inl v_kept)), (a_ended, .inl (cI, 20, .inl v_ended))] H → va_D A [(a_this, .inr (7, [.ref a_start, .ref a_mass, .ref a_rows, .ref a_told, .int v_signs, .ref a_sign, .int v_many, .ref a_kept, .ref a_ended, .ref a_cell, .ref a_loss, .long v_left, .long v_rime, .long v_frost, .int v_began, .int v_last, .int v_rounds, .ref a_read, .ref a_times, .ref a_gains, .int v_seed, .ref a_image, .ref a_isKept])), (a_kept, .inl (cI, 20, .inl v_kept)), (a_ended, .inl (cI, 20, .inl v_ended))] → va_S A s.heap H locs → ∀ (ls : Array Slot), lv_has ls 7 [(0, .ref a_this), (1, .int p_cause), (2, .int p_what), (3, .int x38_l3), (4, .int (nI j26)), (5, .int (nI j38))] → W p l e rX7_said s m args below meth c H locs 0 0 Q (F0 m 67 ls [.int x67_s0]) := by
                    intro x67_s0 hx67_s0 H locs hP hD hS ls hl
                    subst hx67_s0
                    refine lv_istore (lv' := [(6, .int (X7_said_m67_s0 v_ended j26 j38)), (0, .ref a_this), (1, .int p_cause), (2, .int p_what), (3, .int x38_l3), (4, .int (nI j26)), (5, .int (nI j38))]) hx hb dX7_said_67 hl (by decide) rfl (fun ls hl => ?_)
                    refine lv_iload_n hx hb dX7_said_69 rfl (lv_at hl 4 rfl) ?_
                    refine lv_aload_n hx hb dX7_said_70 rfl (lv_at hl 1 rfl) ?_
                    refine va_get (D := D) (ci := 7) (v := .ref a_kept) (C := RX7) (T := TX7) (N := 23) hx hb hts iX7 hown hK hP 0 rfl rfl 7 (by decide) f25 (fun _ h9 => h9) rfl dX7_said_71 ?_
                    refine lv_iload hx hb dX7_said_74 (lv_at hl 5 rfl) ?_
                    refine fx_iald hx hb hK hP 1 0 rfl rfl j26 rfl (by omega) (by decide) dX7_said_76 ?_
                    refine lv_aload_n hx hb dX7_said_77 rfl (lv_at hl 1 rfl) ?_
                    refine va_get (D := D) (ci := 7) (v := .ref a_kept) (C := RX7) (T := TX7) (N := 23) hx hb hts iX7 hown hK hP 0 rfl rfl 7 (by decide) f25 (fun _ h9 => h9) rfl dX7_said_78 ?_
                    refine lv_iload hx hb dX7_said_81 (lv_at hl 6 rfl) ?_
                    refine fx_iald hx hb hK hP 1 0 rfl rfl j38 rfl (by omega) (by decide) dX7_said_83 ?_
                    refine lv_ixor hx hb dX7_said_84 ?_
                    refine lv_iconst (v := 1) hx hb dX7_said_85 (by decide) ?_
                    refine lv_iload_n hx hb dX7_said_86 rfl (lv_at hl 2 rfl) ?_
                    refine lv_ishl hx hb dX7_said_87 ?_
                    have C111 : ∀ (x111_s1 : Int32), (X7_said_m111_s1 v_kept v_ended p_cause p_what j26 j38) = x111_s1 → ∀ (H : Heap) (locs : List Loc), va_P D vwCl [(a_this, .inr (7, [.ref a_start, .ref a_mass, .ref a_rows, .ref a_told, .int v_signs, .ref a_sign, .int v_many, .ref a_kept, .ref a_ended, .ref a_cell, .ref a_loss, .long v_left, .long v_rime, .long v_frost, .int v_began, .int v_last, .int v_rounds, .ref a_read, .ref a_times, .ref a_gains, .int v_seed, .ref a_image, .ref a_isKept])), (a_kept, .inl (cI, 20, .inl v_kept)), (a_ended, .inl (cI, 20, .inl v_ended))] H → va_D A [(a_this, .inr (7, [.ref a_start, .ref a_mass, .ref a_rows, .ref a_told, .int v_signs, .ref a_sign, .int v_many, .ref a_kept, .ref a_ended, .ref a_cell, .ref a_loss, .long v_left, .long v_rime, .long v_frost, .int v_began, .int v_last, .int v_rounds, .ref a_read, .ref a_times, .ref a_gains, .int v_seed, .ref a_image, .ref a_isKept])), (a_kept, .inl (cI, 20, .inl v_kept)), (a_ended, .inl (cI, 20, .inl v_ended))] → va_S A s.heap H locs → ∀ (ls : Array Slot), lv_has ls 7 [(0, .ref a_this), (1, .int p_cause), (2, .int p_what), (4, .int (nI j26)), (5, .int (nI j38))] → W p l e rX7_said s m args below meth c H locs 0 0 Q (F0 m 111 ls [.int x111_s1, .int x38_l3]) := by
                      intro x111_s1 hx111_s1 H locs hP hD hS ls hl
                      subst hx111_s1
                      refine lv_iadd hx hb dX7_said_111 ?_
                      refine lv_istore_n (lv' := [(3, .int (x38_l3 + (X7_said_m111_s1 v_kept v_ended p_cause p_what j26 j38))), (0, .ref a_this), (1, .int p_cause), (2, .int p_what), (4, .int (nI j26)), (5, .int (nI j38))]) hx hb dX7_said_112 rfl hl (by decide) rfl (fun ls hl => ?_)
                      refine lv_iinc (v := nI (j38 + 1)) (lv' := [(5, .int (nI (j38 + 1))), (3, .int (x38_l3 + (X7_said_m111_s1 v_kept v_ended p_cause p_what j26 j38))), (0, .ref a_this), (1, .int p_cause), (2, .int p_what), (4, .int (nI j26))]) hx hb dX7_said_113 hl (k := 5) rfl (fx_inc _ 1) (by decide) rfl (fun ls hl => ?_)
                      refine lv_goto (tgt := 38) hx hb dX7_said_116 (by decide) ?_
                      exact ih38 (j38 + 1) (x38_l3 + (X7_said_m111_s1 v_kept v_ended p_cause p_what j26 j38)) (by omega) (by omega)  (by simp only [X7_said_L38, hx38, if_neg c6, if_neg c15, if_neg c32, if_neg c42]) _ _ hP hD hS ls (lv_sub hl [2, 3, 4, 1, 5, 0] rfl)
                    refine lv_icmp_ne (tgt := 110) hx hb dX7_said_88 (by decide) (fun c88 => ?_) (fun c88 => ?_)
                    · refine lv_iconst (v := 0) hx hb dX7_said_110 (by decide) ?_
                      exact C111 (0 : Int32) (by simp only [X7_said_m111_s1, if_neg c6, if_neg c15, if_neg c32, if_neg c42, if_neg c88]) _ _ hP hD hS ls (lv_sub hl [1, 2, 3, 5, 6] rfl)
                    · refine lv_iload hx hb dX7_said_91 (lv_at hl 0 rfl) ?_
                      refine lv_iload_n hx hb dX7_said_93 rfl (lv_at hl 3 rfl) ?_
                      refine lv_iconst (v := 1) hx hb dX7_said_94 (by decide) ?_
                      have C103 : ∀ (x103_s2 : Int32), (X7_said_m103_s2 p_what) = x103_s2 → ∀ (H : Heap) (locs : List Loc), va_P D vwCl [(a_this, .inr (7, [.ref a_start, .ref a_mass, .ref a_rows, .ref a_told, .int v_signs, .ref a_sign, .int v_many, .ref a_kept, .ref a_ended, .ref a_cell, .ref a_loss, .long v_left, .long v_rime, .long v_frost, .int v_began, .int v_last, .int v_rounds, .ref a_read, .ref a_times, .ref a_gains, .int v_seed, .ref a_image, .ref a_isKept])), (a_kept, .inl (cI, 20, .inl v_kept)), (a_ended, .inl (cI, 20, .inl v_ended))] H → va_D A [(a_this, .inr (7, [.ref a_start, .ref a_mass, .ref a_rows, .ref a_told, .int v_signs, .ref a_sign, .int v_many, .ref a_kept, .ref a_ended, .ref a_cell, .ref a_loss, .long v_left, .long v_rime, .long v_frost, .int v_began, .int v_last, .int v_rounds, .ref a_read, .ref a_times, .ref a_gains, .int v_seed, .ref a_image, .ref a_isKept])), (a_kept, .inl (cI, 20, .inl v_kept)), (a_ended, .inl (cI, 20, .inl v_ended))] → va_S A s.heap H locs → ∀ (ls : Array Slot), lv_has ls 7 [(0, .ref a_this), (1, .int p_cause), (2, .int p_what), (4, .int (nI j26)), (5, .int (nI j38))] → W p l e rX7_said s m args below meth c H locs 0 0 Q (F0 m 103 ls [.int x103_s2, .int (X7_said_m67_s0 v_ended j26 j38), .int x38_l3]) := by
                        intro x103_s2 hx103_s2 H locs hP hD hS ls hl
                        subst hx103_s2
                        refine lv_icmp_ne (tgt := 110) hx hb dX7_said_103 (by decide) (fun c103 => ?_) (fun c103 => ?_)
                        · refine lv_iconst (v := 0) hx hb dX7_said_110 (by decide) ?_
                          exact C111 (0 : Int32) (by simp only [X7_said_m111_s1, if_neg c6, if_neg c15, if_neg c32, if_neg c42, if_pos c88, if_neg c103]) _ _ hP hD hS ls (lv_sub hl [0, 1, 2, 3, 4] rfl)
                        · refine lv_iconst (v := 1) hx hb dX7_said_106 (by decide) ?_
                          refine lv_goto (tgt := 111) hx hb dX7_said_107 (by decide) ?_
                          exact C111 (1 : Int32) (by simp only [X7_said_m111_s1, if_neg c6, if_neg c15, if_neg c32, if_neg c42, if_pos c88, if_pos c103]) _ _ hP hD hS ls (lv_sub hl [0, 1, 2, 3, 4] rfl)
                      refine lv_icmp_ne (tgt := 102) hx hb dX7_said_95 (by decide) (fun c95 => ?_) (fun c95 => ?_)
                      · refine lv_iconst (v := 0) hx hb dX7_said_102 (by decide) ?_
                        exact C103 (0 : Int32) (by simp only [X7_said_m103_s2, if_neg c6, if_neg c15, if_neg c32, if_neg c42, if_pos c88, if_neg c95]) _ _ hP hD hS ls (lv_sub hl [1, 2, 3, 5, 6] rfl)
                      · refine lv_iconst (v := 1) hx hb dX7_said_98 (by decide) ?_
                        refine lv_goto (tgt := 103) hx hb dX7_said_99 (by decide) ?_
                        exact C103 (1 : Int32) (by simp only [X7_said_m103_s2, if_neg c6, if_neg c15, if_neg c32, if_neg c42, if_pos c88, if_pos c95]) _ _ hP hD hS ls (lv_sub hl [1, 2, 3, 5, 6] rfl)
                  refine lv_icmp_ne (tgt := 66) hx hb dX7_said_59 (by decide) (fun c59 => ?_) (fun c59 => ?_)
                  · refine lv_iconst (v := 0) hx hb dX7_said_66 (by decide) ?_
                    exact C67 (0 : Int32) (by simp only [X7_said_m67_s0, if_neg c6, if_neg c15, if_neg c32, if_neg c42, if_neg c59]) _ _ hP hD hS ls (lv_sub hl [0, 1, 2, 3, 4, 5] rfl)
                  · refine lv_iconst (v := 1) hx hb dX7_said_62 (by decide) ?_
                    refine lv_goto (tgt := 67) hx hb dX7_said_63 (by decide) ?_
                    exact C67 (1 : Int32) (by simp only [X7_said_m67_s0, if_neg c6, if_neg c15, if_neg c32, if_neg c42, if_pos c59]) _ _ hP hD hS ls (lv_sub hl [0, 1, 2, 3, 4, 5] rfl)
            exact L38 (j26 + 1) 0 x26_l3 (by omega) (by omega)  rfl _ _ hP hD hS ls (lv_sub hl [1, 2, 3, 4, 5, 0] rfl)
      exact L26 (v_many.toNatClampNeg + 1) 0 (0 : Int32) (by omega) (by omega)  rfl _ _ hP hD hS ls (lv_sub hl [2, 3, 4, 1, 0] rfl)
    · refine lv_bipush (v := (-2)) hx hb dX7_said_18 (by decide) ?_
      exact hret _ _ _ _ _ _ dX7_said_20 (by simp only [X7_said, if_neg c6, if_pos c15]) rfl hP hD hS
  · refine lv_iconst (v := (-1)) hx hb dX7_said_9 (by decide) ?_
    exact hret _ _ _ _ _ _ dX7_said_10 (by simp only [X7_said, if_pos c6]) rfl hP hD hS

def X7_ask_m57_s0 (v_kept : Nat → Int32) (j7 : Nat) (j22 : Nat) (x22_l4 : Int32) : Int32 := (if x22_l4 = 0 then (if ((v_kept j22) ^^^ nI j7) = 0 then (1 : Int32) else (0 : Int32)) else (1 : Int32))
def X7_ask_m91_s1 (v_kept : Nat → Int32) (j7 : Nat) (j22 : Nat) : Int32 := (if ((v_kept j22) ^^^ nI j7) = (1 : Int32) then (1 : Int32) else (if ((v_kept j22) ^^^ nI j7) = (2 : Int32) then (1 : Int32) else (if ((v_kept j22) ^^^ nI j7) = (4 : Int32) then (1 : Int32) else (if ((v_kept j22) ^^^ nI j7) = (8 : Int32) then (1 : Int32) else (0 : Int32)))))
def X7_ask_L22 (v_kept : Nat → Int32) (j7 : Nat) : Nat → Int32 × Int32
  | 0 => ((0 : Int32), (0 : Int32))
  | j22 + 1 => ((X7_ask_m57_s0 v_kept j7 j22 (X7_ask_L22 v_kept j7 j22).1), ((X7_ask_L22 v_kept j7 j22).2 + (X7_ask_m91_s1 v_kept j7 j22)))
def X7_ask_L7 (v_many : Int32) (v_kept : Nat → Int32) : Nat → Int32 × Int32
  | 0 => (((-6) : Int32), (0 : Int32))
  | j7 + 1 => (if (X7_ask_L22 v_kept j7 v_many.toNatClampNeg).1 = 0 then (if (X7_ask_L7 v_many v_kept j7).1 < 0 then (nI j7, (X7_ask_L22 v_kept j7 v_many.toNatClampNeg).2) else (if (X7_ask_L22 v_kept j7 v_many.toNatClampNeg).2 ≤ (X7_ask_L7 v_many v_kept j7).2 then ((X7_ask_L7 v_many v_kept j7).1, (X7_ask_L7 v_many v_kept j7).2) else (nI j7, (X7_ask_L22 v_kept j7 v_many.toNatClampNeg).2))) else ((X7_ask_L7 v_many v_kept j7).1, (X7_ask_L7 v_many v_kept j7).2))
def X7_ask (v_many : Int32) (v_kept : Nat → Int32) : Int32 := ((X7_ask_L7 v_many v_kept 16).1)
abbrev rX7_ask : Room := { frames := 0, cells := 0, slots := 0, locals := 0 }
theorem n_X7_ask_X7 : ∀ w ∈ wsX70, w ∈ wsX7_ask := by decide +kernel
set_option maxHeartbeats 8000000 in
set_option maxRecDepth 100000 in
theorem k_X7_ask (l : Launch) (G : fxE) (hG : fxGood G) (D : va_G) (cI cJ cZ cH : ClassId) (a_start a_mass a_rows a_told a_sign a_kept a_ended a_cell a_loss a_read a_times a_gains a_image a_isKept a_this : Nat) (v_signs : Int32) (v_many : Int32) (v_left : Int64) (v_rime : Int64) (v_frost : Int64) (v_began : Int32) (v_last : Int32) (v_rounds : Int32) (v_seed : Int32) (v_kept : Nat → Int32) (h0 : 0 ≤ v_many) (h1 : v_many ≤ 20) : MetI l yX7_ask wsX7_ask rX7_ask G D (tyL cI cJ cZ cH) [.ref a_this] [(a_this, .inr (7, [.ref a_start, .ref a_mass, .ref a_rows, .ref a_told, .int v_signs, .ref a_sign, .int v_many, .ref a_kept, .ref a_ended, .ref a_cell, .ref a_loss, .long v_left, .long v_rime, .long v_frost, .int v_began, .int v_last, .int v_rounds, .ref a_read, .ref a_times, .ref a_gains, .int v_seed, .ref a_image, .ref a_isKept])), (a_kept, .inl (cI, 20, .inl v_kept))] (X7_ask v_many v_kept) [(a_this, .inr (7, [.ref a_start, .ref a_mass, .ref a_rows, .ref a_told, .int v_signs, .ref a_sign, .int v_many, .ref a_kept, .ref a_ended, .ref a_cell, .ref a_loss, .long v_left, .long v_rime, .long v_frost, .int v_began, .int v_last, .int v_rounds, .ref a_read, .ref a_times, .ref a_gains, .int v_seed, .ref a_image, .ref a_isKept])), (a_kept, .inl (cI, 20, .inl v_kept))] := by
  refine fx_startI (cc := cX7_ask) (n := 8) (rt := .int) (plainFor_of_name (by decide)) rfl (Nat.le_of_ble_eq_true rfl) rfl ?_
  intro p e s m args below meth c A Q ls hx hb hml hown hts hA hGs hK hP hD hS hl hret
  have hl : lv_has ls 8 [(0, .ref a_this)] := hl
  have iX7 := n_X7_ask_X7
  have f184 := hts (.fieldLink RX7 184 "FrozeFirstModel" "many" "I") (by decide +kernel)
  have f25 := hts (.fieldLink RX7 25 "FrozeFirstModel" "kept" "[I") (by decide +kernel)
  have e_many := fx_tn h0
  have b_many := fx_tb (N := 20) (n := 20) rfl (by decide) h0 h1
  refine lv_bipush (v := (-6)) hx hb dX7_ask_0 (by decide) ?_
  refine lv_istore_n (lv' := [(1, .int ((-6) : Int32)), (0, .ref a_this)]) hx hb dX7_ask_2 rfl hl (by decide) rfl (fun ls hl => ?_)
  refine lv_iconst (v := 0) hx hb dX7_ask_3 (by decide) ?_
  refine lv_istore_n (lv' := [(2, .int (0 : Int32)), (1, .int ((-6) : Int32)), (0, .ref a_this)]) hx hb dX7_ask_4 rfl hl (by decide) rfl (fun ls hl => ?_)
  refine lv_iconst (v := 0) hx hb dX7_ask_5 (by decide) ?_
  refine lv_istore_n (lv' := [(3, .int (0 : Int32)), (2, .int (0 : Int32)), (1, .int ((-6) : Int32)), (0, .ref a_this)]) hx hb dX7_ask_6 rfl hl (by decide) rfl (fun ls hl => ?_)
  have L7 : ∀ (n j7 : Nat) (x7_l1 : Int32) (x7_l2 : Int32), j7 ≤ 16 → 16 + 1 ≤ j7 + n → X7_ask_L7 v_many v_kept j7 = (x7_l1, x7_l2) → ∀ (H : Heap) (locs : List Loc), va_P D vwCl [(a_this, .inr (7, [.ref a_start, .ref a_mass, .ref a_rows, .ref a_told, .int v_signs, .ref a_sign, .int v_many, .ref a_kept, .ref a_ended, .ref a_cell, .ref a_loss, .long v_left, .long v_rime, .long v_frost, .int v_began, .int v_last, .int v_rounds, .ref a_read, .ref a_times, .ref a_gains, .int v_seed, .ref a_image, .ref a_isKept])), (a_kept, .inl (cI, 20, .inl v_kept))] H → va_D A [(a_this, .inr (7, [.ref a_start, .ref a_mass, .ref a_rows, .ref a_told, .int v_signs, .ref a_sign, .int v_many, .ref a_kept, .ref a_ended, .ref a_cell, .ref a_loss, .long v_left, .long v_rime, .long v_frost, .int v_began, .int v_last, .int v_rounds, .ref a_read, .ref a_times, .ref a_gains, .int v_seed, .ref a_image, .ref a_isKept])), (a_kept, .inl (cI, 20, .inl v_kept))] → va_S A s.heap H locs → ∀ (ls : Array Slot), lv_has ls 8 [(0, .ref a_this), (1, .int x7_l1), (2, .int x7_l2), (3, .int (nI j7))] → W p l e rX7_ask s m args below meth c H locs 0 0 Q (F0 m 7 ls []) := by
    intro n
    induction n with
    | zero => intro j7 x7_l1 x7_l2 h1 h2; exact absurd h2 (by omega)
    | succ n ih7 =>
      intro j7 x7_l1 x7_l2 hj7 hn7  hx7 H locs hP hD hS ls hl
      refine lv_iload_n hx hb dX7_ask_7 rfl (lv_at hl 3 rfl) ?_
      refine lv_bipush (v := 16) hx hb dX7_ask_8 (by decide) ?_
      refine lv_icmp_ge (tgt := 126) hx hb dX7_ask_10 (by decide) (fun c10 => ?_) (fun c10 => ?_)
      · have n10 : 16 ≤ j7 := (fx_leN (x := (16 : Int32)) (y := (nI j7)) (a := 16) (b := j7) rfl rfl (by omega) (by omega)).mp c10
        have e7 : 16 = j7 := by omega
        subst e7
        have q7_0 : x7_l1 = (X7_ask_L7 v_many v_kept 16).1 := by rw [hx7]
        have q7_1 : x7_l2 = (X7_ask_L7 v_many v_kept 16).2 := by rw [hx7]
        subst q7_0
        subst q7_1
        have hl := lv_sub (l' := [(1, .int ((X7_ask_L7 v_many v_kept 16).1))]) hl [1] rfl
        have hP : va_P D vwCl [(a_this, .inr (7, [.ref a_start, .ref a_mass, .ref a_rows, .ref a_told, .int v_signs, .ref a_sign, .int v_many, .ref a_kept, .ref a_ended, .ref a_cell, .ref a_loss, .long v_left, .long v_rime, .long v_frost, .int v_began, .int v_last, .int v_rounds, .ref a_read, .ref a_times, .ref a_gains, .int v_seed, .ref a_image, .ref a_isKept])), (a_kept, .inl (cI, 20, .inl v_kept))] H := hP
        have hD : va_D A [(a_this, .inr (7, [.ref a_start, .ref a_mass, .ref a_rows, .ref a_told, .int v_signs, .ref a_sign, .int v_many, .ref a_kept, .ref a_ended, .ref a_cell, .ref a_loss, .long v_left, .long v_rime, .long v_frost, .int v_began, .int v_last, .int v_rounds, .ref a_read, .ref a_times, .ref a_gains, .int v_seed, .ref a_image, .ref a_isKept])), (a_kept, .inl (cI, 20, .inl v_kept))] := hD
        refine lv_iload_n hx hb dX7_ask_126 rfl (lv_at hl 0 rfl) ?_
        exact hret _ _ _ _ _ _ dX7_ask_127 (by simp only [X7_ask, if_pos c10]) rfl hP hD hS
      · have n10 : ¬ (16 ≤ j7) := fun h9 => c10 ((fx_leN (x := (16 : Int32)) (y := (nI j7)) (a := 16) (b := j7) rfl rfl (by omega) (by omega)).mpr h9)
        refine lv_iconst (v := 0) hx hb dX7_ask_13 (by decide) ?_
        refine lv_istore (lv' := [(4, .int (0 : Int32)), (0, .ref a_this), (1, .int x7_l1), (2, .int x7_l2), (3, .int (nI j7))]) hx hb dX7_ask_14 hl (by decide) rfl (fun ls hl => ?_)
        refine lv_iconst (v := 0) hx hb dX7_ask_16 (by decide) ?_
        refine lv_istore (lv' := [(5, .int (0 : Int32)), (4, .int (0 : Int32)), (0, .ref a_this), (1, .int x7_l1), (2, .int x7_l2), (3, .int (nI j7))]) hx hb dX7_ask_17 hl (by decide) rfl (fun ls hl => ?_)
        refine lv_iconst (v := 0) hx hb dX7_ask_19 (by decide) ?_
        refine lv_istore (lv' := [(6, .int (0 : Int32)), (5, .int (0 : Int32)), (4, .int (0 : Int32)), (0, .ref a_this), (1, .int x7_l1), (2, .int x7_l2), (3, .int (nI j7))]) hx hb dX7_ask_20 hl (by decide) rfl (fun ls hl => ?_)
        have L22 : ∀ (n j22 : Nat) (x22_l4 : Int32) (x22_l5 : Int32), j22 ≤ v_many.toNatClampNeg → v_many.toNatClampNeg + 1 ≤ j22 + n → X7_ask_L22 v_kept j7 j22 = (x22_l4, x22_l5) → ∀ (H : Heap) (locs : List Loc), va_P D vwCl [(a_this, .inr (7, [.ref a_start, .ref a_mass, .ref a_rows, .ref a_told, .int v_signs, .ref a_sign, .int v_many, .ref a_kept, .ref a_ended, .ref a_cell, .ref a_loss, .long v_left, .long v_rime, .long v_frost, .int v_began, .int v_last, .int v_rounds, .ref a_read, .ref a_times, .ref a_gains, .int v_seed, .ref a_image, .ref a_isKept])), (a_kept, .inl (cI, 20, .inl v_kept))] H → va_D A [(a_this, .inr (7, [.ref a_start, .ref a_mass, .ref a_rows, .ref a_told, .int v_signs, .ref a_sign, .int v_many, .ref a_kept, .ref a_ended, .ref a_cell, .ref a_loss, .long v_left, .long v_rime, .long v_frost, .int v_began, .int v_last, .int v_rounds, .ref a_read, .ref a_times, .ref a_gains, .int v_seed, .ref a_image, .ref a_isKept])), (a_kept, .inl (cI, 20, .inl v_kept))] → va_S A s.heap H locs → ∀ (ls : Array Slot), lv_has ls 8 [(0, .ref a_this), (1, .int x7_l1), (2, .int x7_l2), (3, .int (nI j7)), (4, .int x22_l4), (5, .int x22_l5), (6, .int (nI j22))] → W p l e rX7_ask s m args below meth c H locs 0 0 Q (F0 m 22 ls []) := by
          intro n
          induction n with
          | zero => intro j22 x22_l4 x22_l5 h1 h2; exact absurd h2 (by omega)
          | succ n ih22 =>
            intro j22 x22_l4 x22_l5 hj22 hn22  hx22 H locs hP hD hS ls hl
            refine lv_iload hx hb dX7_ask_22 (lv_at hl 6 rfl) ?_
            refine lv_aload_n hx hb dX7_ask_24 rfl (lv_at hl 0 rfl) ?_
            refine va_get (D := D) (ci := 7) (v := .int v_many) (C := RX7) (T := TX7) (N := 23) hx hb hts iX7 hown hK hP 0 rfl rfl 6 (by decide) f184 (fun _ h9 => h9) rfl dX7_ask_25 ?_
            refine lv_icmp_ge (tgt := 100) hx hb dX7_ask_28 (by decide) (fun c28 => ?_) (fun c28 => ?_)
            · have n28 : v_many.toNatClampNeg ≤ j22 := (fx_leN (x := v_many) (y := (nI j22)) (a := v_many.toNatClampNeg) (b := j22) e_many rfl (by omega) (by omega)).mp c28
              have e22 : v_many.toNatClampNeg = j22 := by omega
              subst e22
              have q22_0 : x22_l4 = (X7_ask_L22 v_kept j7 v_many.toNatClampNeg).1 := by rw [hx22]
              have q22_1 : x22_l5 = (X7_ask_L22 v_kept j7 v_many.toNatClampNeg).2 := by rw [hx22]
              subst q22_0
              subst q22_1
              have hl := lv_sub (l' := [(0, .ref a_this), (1, .int x7_l1), (2, .int x7_l2), (3, .int (nI j7)), (4, .int ((X7_ask_L22 v_kept j7 v_many.toNatClampNeg).1)), (5, .int ((X7_ask_L22 v_kept j7 v_many.toNatClampNeg).2))]) hl [0, 1, 2, 3, 4, 5] rfl
              have hP : va_P D vwCl [(a_this, .inr (7, [.ref a_start, .ref a_mass, .ref a_rows, .ref a_told, .int v_signs, .ref a_sign, .int v_many, .ref a_kept, .ref a_ended, .ref a_cell, .ref a_loss, .long v_left, .long v_rime, .long v_frost, .int v_began, .int v_last, .int v_rounds, .ref a_read, .ref a_times, .ref a_gains, .int v_seed, .ref a_image, .ref a_isKept])), (a_kept, .inl (cI, 20, .inl v_kept))] H := hP
              have hD : va_D A [(a_this, .inr (7, [.ref a_start, .ref a_mass, .ref a_rows, .ref a_told, .int v_signs, .ref a_sign, .int v_many, .ref a_kept, .ref a_ended, .ref a_cell, .ref a_loss, .long v_left, .long v_rime, .long v_frost, .int v_began, .int v_last, .int v_rounds, .ref a_read, .ref a_times, .ref a_gains, .int v_seed, .ref a_image, .ref a_isKept])), (a_kept, .inl (cI, 20, .inl v_kept))] := hD
              refine lv_iload hx hb dX7_ask_100 (lv_at hl 4 rfl) ?_
              refine lv_if_ne (tgt := 120) hx hb dX7_ask_102 (by decide) (fun c102 => ?_) (fun c102 => ?_)
              · refine lv_iinc (v := nI (j7 + 1)) (lv' := [(3, .int (nI (j7 + 1))), (0, .ref a_this), (1, .int x7_l1), (2, .int x7_l2), (4, .int ((X7_ask_L22 v_kept j7 v_many.toNatClampNeg).1)), (5, .int ((X7_ask_L22 v_kept j7 v_many.toNatClampNeg).2))]) hx hb dX7_ask_120 hl (k := 3) rfl (fx_inc _ 1) (by decide) rfl (fun ls hl => ?_)
                refine lv_goto (tgt := 7) hx hb dX7_ask_123 (by decide) ?_
                exact ih7 (j7 + 1) x7_l1 x7_l2 (by omega) (by omega)  (by simp only [X7_ask_L7, hx7, if_neg c10, if_pos c28, if_neg c102]) _ _ hP hD hS ls (lv_sub hl [1, 2, 3, 0] rfl)
              · refine lv_iload_n hx hb dX7_ask_105 rfl (lv_at hl 1 rfl) ?_
                refine lv_if_lt (tgt := 115) hx hb dX7_ask_106 (by decide) (fun c106 => ?_) (fun c106 => ?_)
                · refine lv_iload_n hx hb dX7_ask_115 rfl (lv_at hl 3 rfl) ?_
                  refine lv_istore_n (lv' := [(1, .int (nI j7)), (0, .ref a_this), (2, .int x7_l2), (3, .int (nI j7)), (4, .int ((X7_ask_L22 v_kept j7 v_many.toNatClampNeg).1)), (5, .int ((X7_ask_L22 v_kept j7 v_many.toNatClampNeg).2))]) hx hb dX7_ask_116 rfl hl (by decide) rfl (fun ls hl => ?_)
                  refine lv_iload hx hb dX7_ask_117 (lv_at hl 5 rfl) ?_
                  refine lv_istore_n (lv' := [(2, .int ((X7_ask_L22 v_kept j7 v_many.toNatClampNeg).2)), (1, .int (nI j7)), (0, .ref a_this), (3, .int (nI j7)), (4, .int ((X7_ask_L22 v_kept j7 v_many.toNatClampNeg).1)), (5, .int ((X7_ask_L22 v_kept j7 v_many.toNatClampNeg).2))]) hx hb dX7_ask_119 rfl hl (by decide) rfl (fun ls hl => ?_)
                  refine lv_iinc (v := nI (j7 + 1)) (lv' := [(3, .int (nI (j7 + 1))), (2, .int ((X7_ask_L22 v_kept j7 v_many.toNatClampNeg).2)), (1, .int (nI j7)), (0, .ref a_this), (4, .int ((X7_ask_L22 v_kept j7 v_many.toNatClampNeg).1)), (5, .int ((X7_ask_L22 v_kept j7 v_many.toNatClampNeg).2))]) hx hb dX7_ask_120 hl (k := 3) rfl (fx_inc _ 1) (by decide) rfl (fun ls hl => ?_)
                  refine lv_goto (tgt := 7) hx hb dX7_ask_123 (by decide) ?_
                  exact ih7 (j7 + 1) (nI j7) ((X7_ask_L22 v_kept j7 v_many.toNatClampNeg).2) (by omega) (by omega)  (by simp only [X7_ask_L7, hx7, if_neg c10, if_pos c28, if_pos c102, if_pos c106]) _ _ hP hD hS ls (lv_sub hl [3, 2, 1, 0] rfl)
                · refine lv_iload hx hb dX7_ask_109 (lv_at hl 5 rfl) ?_
                  refine lv_iload_n hx hb dX7_ask_111 rfl (lv_at hl 2 rfl) ?_
                  refine lv_icmp_le (tgt := 120) hx hb dX7_ask_112 (by decide) (fun c112 => ?_) (fun c112 => ?_)
                  · refine lv_iinc (v := nI (j7 + 1)) (lv' := [(3, .int (nI (j7 + 1))), (0, .ref a_this), (1, .int x7_l1), (2, .int x7_l2), (4, .int ((X7_ask_L22 v_kept j7 v_many.toNatClampNeg).1)), (5, .int ((X7_ask_L22 v_kept j7 v_many.toNatClampNeg).2))]) hx hb dX7_ask_120 hl (k := 3) rfl (fx_inc _ 1) (by decide) rfl (fun ls hl => ?_)
                    refine lv_goto (tgt := 7) hx hb dX7_ask_123 (by decide) ?_
                    exact ih7 (j7 + 1) x7_l1 x7_l2 (by omega) (by omega)  (by simp only [X7_ask_L7, hx7, if_neg c10, if_pos c28, if_pos c102, if_neg c106, if_pos c112]) _ _ hP hD hS ls (lv_sub hl [1, 2, 3, 0] rfl)
                  · refine lv_iload_n hx hb dX7_ask_115 rfl (lv_at hl 3 rfl) ?_
                    refine lv_istore_n (lv' := [(1, .int (nI j7)), (0, .ref a_this), (2, .int x7_l2), (3, .int (nI j7)), (4, .int ((X7_ask_L22 v_kept j7 v_many.toNatClampNeg).1)), (5, .int ((X7_ask_L22 v_kept j7 v_many.toNatClampNeg).2))]) hx hb dX7_ask_116 rfl hl (by decide) rfl (fun ls hl => ?_)
                    refine lv_iload hx hb dX7_ask_117 (lv_at hl 5 rfl) ?_
                    refine lv_istore_n (lv' := [(2, .int ((X7_ask_L22 v_kept j7 v_many.toNatClampNeg).2)), (1, .int (nI j7)), (0, .ref a_this), (3, .int (nI j7)), (4, .int ((X7_ask_L22 v_kept j7 v_many.toNatClampNeg).1)), (5, .int ((X7_ask_L22 v_kept j7 v_many.toNatClampNeg).2))]) hx hb dX7_ask_119 rfl hl (by decide) rfl (fun ls hl => ?_)
                    refine lv_iinc (v := nI (j7 + 1)) (lv' := [(3, .int (nI (j7 + 1))), (2, .int ((X7_ask_L22 v_kept j7 v_many.toNatClampNeg).2)), (1, .int (nI j7)), (0, .ref a_this), (4, .int ((X7_ask_L22 v_kept j7 v_many.toNatClampNeg).1)), (5, .int ((X7_ask_L22 v_kept j7 v_many.toNatClampNeg).2))]) hx hb dX7_ask_120 hl (k := 3) rfl (fx_inc _ 1) (by decide) rfl (fun ls hl => ?_)
                    refine lv_goto (tgt := 7) hx hb dX7_ask_123 (by decide) ?_
                    exact ih7 (j7 + 1) (nI j7) ((X7_ask_L22 v_kept j7 v_many.toNatClampNeg).2) (by omega) (by omega)  (by simp only [X7_ask_L7, hx7, if_neg c10, if_pos c28, if_pos c102, if_neg c106, if_neg c112]) _ _ hP hD hS ls (lv_sub hl [3, 2, 1, 0] rfl)
            · have n28 : ¬ (v_many.toNatClampNeg ≤ j22) := fun h9 => c28 ((fx_leN (x := v_many) (y := (nI j22)) (a := v_many.toNatClampNeg) (b := j22) e_many rfl (by omega) (by omega)).mpr h9)
              refine lv_aload_n hx hb dX7_ask_31 rfl (lv_at hl 0 rfl) ?_
              refine va_get (D := D) (ci := 7) (v := .ref a_kept) (C := RX7) (T := TX7) (N := 23) hx hb hts iX7 hown hK hP 0 rfl rfl 7 (by decide) f25 (fun _ h9 => h9) rfl dX7_ask_32 ?_
              refine lv_iload hx hb dX7_ask_35 (lv_at hl 6 rfl) ?_
              refine fx_iald hx hb hK hP 1 0 rfl rfl j22 rfl (by omega) (by decide) dX7_ask_37 ?_
              refine lv_iload_n hx hb dX7_ask_38 rfl (lv_at hl 3 rfl) ?_
              refine lv_ixor hx hb dX7_ask_39 ?_
              refine lv_istore (lv' := [(7, .int ((v_kept j22) ^^^ nI j7)), (0, .ref a_this), (1, .int x7_l1), (2, .int x7_l2), (3, .int (nI j7)), (4, .int x22_l4), (5, .int x22_l5), (6, .int (nI j22))]) hx hb dX7_ask_40 hl (by decide) rfl (fun ls hl => ?_)
              refine lv_iload hx hb dX7_ask_42 (lv_at hl 5 rfl) ?_
              have C57 : ∀ (x57_s0 : Int32), (X7_ask_m57_s0 v_kept j7 j22 x22_l4) = x57_s0 → ∀ (H : Heap) (locs : List Loc), va_P D vwCl [(a_this, .inr (7, [.ref a_start, .ref a_mass, .ref a_rows, .ref a_told, .int v_signs, .ref a_sign, .int v_many, .ref a_kept, .ref a_ended, .ref a_cell, .ref a_loss, .long v_left, .long v_rime, .long v_frost, .int v_began, .int v_last, .int v_rounds, .ref a_read, .ref a_times, .ref a_gains, .int v_seed, .ref a_image, .ref a_isKept])), (a_kept, .inl (cI, 20, .inl v_kept))] H → va_D A [(a_this, .inr (7, [.ref a_start, .ref a_mass, .ref a_rows, .ref a_told, .int v_signs, .ref a_sign, .int v_many, .ref a_kept, .ref a_ended, .ref a_cell, .ref a_loss, .long v_left, .long v_rime, .long v_frost, .int v_began, .int v_last, .int v_rounds, .ref a_read, .ref a_times, .ref a_gains, .int v_seed, .ref a_image, .ref a_isKept])), (a_kept, .inl (cI, 20, .inl v_kept))] → va_S A s.heap H locs → ∀ (ls : Array Slot), lv_has ls 8 [(0, .ref a_this), (1, .int x7_l1), (2, .int x7_l2), (3, .int (nI j7)), (5, .int x22_l5), (6, .int (nI j22)), (7, .int ((v_kept j22) ^^^ nI j7))] → W p l e rX7_ask s m args below meth c H locs 0 0 Q (F0 m 57 ls [.int x57_s0]) := by
                intro x57_s0 hx57_s0 H locs hP hD hS ls hl
                subst hx57_s0
                refine lv_istore (lv' := [(4, .int (X7_ask_m57_s0 v_kept j7 j22 x22_l4)), (0, .ref a_this), (1, .int x7_l1), (2, .int x7_l2), (3, .int (nI j7)), (5, .int x22_l5), (6, .int (nI j22)), (7, .int ((v_kept j22) ^^^ nI j7))]) hx hb dX7_ask_57 hl (by decide) rfl (fun ls hl => ?_)
                refine lv_iload hx hb dX7_ask_59 (lv_at hl 5 rfl) ?_
                refine lv_iload hx hb dX7_ask_61 (lv_at hl 7 rfl) ?_
                refine lv_iconst (v := 1) hx hb dX7_ask_63 (by decide) ?_
                have C91 : ∀ (x91_s1 : Int32), (X7_ask_m91_s1 v_kept j7 j22) = x91_s1 → ∀ (H : Heap) (locs : List Loc), va_P D vwCl [(a_this, .inr (7, [.ref a_start, .ref a_mass, .ref a_rows, .ref a_told, .int v_signs, .ref a_sign, .int v_many, .ref a_kept, .ref a_ended, .ref a_cell, .ref a_loss, .long v_left, .long v_rime, .long v_frost, .int v_began, .int v_last, .int v_rounds, .ref a_read, .ref a_times, .ref a_gains, .int v_seed, .ref a_image, .ref a_isKept])), (a_kept, .inl (cI, 20, .inl v_kept))] H → va_D A [(a_this, .inr (7, [.ref a_start, .ref a_mass, .ref a_rows, .ref a_told, .int v_signs, .ref a_sign, .int v_many, .ref a_kept, .ref a_ended, .ref a_cell, .ref a_loss, .long v_left, .long v_rime, .long v_frost, .int v_began, .int v_last, .int v_rounds, .ref a_read, .ref a_times, .ref a_gains, .int v_seed, .ref a_image, .ref a_isKept])), (a_kept, .inl (cI, 20, .inl v_kept))] → va_S A s.heap H locs → ∀ (ls : Array Slot), lv_has ls 8 [(0, .ref a_this), (1, .int x7_l1), (2, .int x7_l2), (3, .int (nI j7)), (4, .int (X7_ask_m57_s0 v_kept j7 j22 x22_l4)), (6, .int (nI j22))] → W p l e rX7_ask s m args below meth c H locs 0 0 Q (F0 m 91 ls [.int x91_s1, .int x22_l5]) := by
                  intro x91_s1 hx91_s1 H locs hP hD hS ls hl
                  subst hx91_s1
                  refine lv_iadd hx hb dX7_ask_91 ?_
                  refine lv_istore (lv' := [(5, .int (x22_l5 + (X7_ask_m91_s1 v_kept j7 j22))), (0, .ref a_this), (1, .int x7_l1), (2, .int x7_l2), (3, .int (nI j7)), (4, .int (X7_ask_m57_s0 v_kept j7 j22 x22_l4)), (6, .int (nI j22))]) hx hb dX7_ask_92 hl (by decide) rfl (fun ls hl => ?_)
                  refine lv_iinc (v := nI (j22 + 1)) (lv' := [(6, .int (nI (j22 + 1))), (5, .int (x22_l5 + (X7_ask_m91_s1 v_kept j7 j22))), (0, .ref a_this), (1, .int x7_l1), (2, .int x7_l2), (3, .int (nI j7)), (4, .int (X7_ask_m57_s0 v_kept j7 j22 x22_l4))]) hx hb dX7_ask_94 hl (k := 6) rfl (fx_inc _ 1) (by decide) rfl (fun ls hl => ?_)
                  refine lv_goto (tgt := 22) hx hb dX7_ask_97 (by decide) ?_
                  exact ih22 (j22 + 1) (X7_ask_m57_s0 v_kept j7 j22 x22_l4) (x22_l5 + (X7_ask_m91_s1 v_kept j7 j22)) (by omega) (by omega)  (by simp only [X7_ask_L22, hx22, if_neg c10, if_neg c28]) _ _ hP hD hS ls (lv_sub hl [2, 3, 4, 5, 6, 1, 0] rfl)
                refine lv_icmp_eq (tgt := 86) hx hb dX7_ask_64 (by decide) (fun c64 => ?_) (fun c64 => ?_)
                · refine lv_iconst (v := 1) hx hb dX7_ask_86 (by decide) ?_
                  refine lv_goto (tgt := 91) hx hb dX7_ask_87 (by decide) ?_
                  exact C91 (1 : Int32) (by simp only [X7_ask_m91_s1, if_neg c10, if_neg c28, if_pos c64]) _ _ hP hD hS ls (lv_sub hl [1, 2, 3, 4, 0, 6] rfl)
                · refine lv_iload hx hb dX7_ask_67 (lv_at hl 7 rfl) ?_
                  refine lv_iconst (v := 2) hx hb dX7_ask_69 (by decide) ?_
                  refine lv_icmp_eq (tgt := 86) hx hb dX7_ask_70 (by decide) (fun c70 => ?_) (fun c70 => ?_)
                  · refine lv_iconst (v := 1) hx hb dX7_ask_86 (by decide) ?_
                    refine lv_goto (tgt := 91) hx hb dX7_ask_87 (by decide) ?_
                    exact C91 (1 : Int32) (by simp only [X7_ask_m91_s1, if_neg c10, if_neg c28, if_neg c64, if_pos c70]) _ _ hP hD hS ls (lv_sub hl [1, 2, 3, 4, 0, 6] rfl)
                  · refine lv_iload hx hb dX7_ask_73 (lv_at hl 7 rfl) ?_
                    refine lv_iconst (v := 4) hx hb dX7_ask_75 (by decide) ?_
                    refine lv_icmp_eq (tgt := 86) hx hb dX7_ask_76 (by decide) (fun c76 => ?_) (fun c76 => ?_)
                    · refine lv_iconst (v := 1) hx hb dX7_ask_86 (by decide) ?_
                      refine lv_goto (tgt := 91) hx hb dX7_ask_87 (by decide) ?_
                      exact C91 (1 : Int32) (by simp only [X7_ask_m91_s1, if_neg c10, if_neg c28, if_neg c64, if_neg c70, if_pos c76]) _ _ hP hD hS ls (lv_sub hl [1, 2, 3, 4, 0, 6] rfl)
                    · refine lv_iload hx hb dX7_ask_79 (lv_at hl 7 rfl) ?_
                      refine lv_bipush (v := 8) hx hb dX7_ask_81 (by decide) ?_
                      refine lv_icmp_ne (tgt := 90) hx hb dX7_ask_83 (by decide) (fun c83 => ?_) (fun c83 => ?_)
                      · refine lv_iconst (v := 0) hx hb dX7_ask_90 (by decide) ?_
                        exact C91 (0 : Int32) (by simp only [X7_ask_m91_s1, if_neg c10, if_neg c28, if_neg c64, if_neg c70, if_neg c76, if_neg c83]) _ _ hP hD hS ls (lv_sub hl [1, 2, 3, 4, 0, 6] rfl)
                      · refine lv_iconst (v := 1) hx hb dX7_ask_86 (by decide) ?_
                        refine lv_goto (tgt := 91) hx hb dX7_ask_87 (by decide) ?_
                        exact C91 (1 : Int32) (by simp only [X7_ask_m91_s1, if_neg c10, if_neg c28, if_neg c64, if_neg c70, if_neg c76, if_pos c83]) _ _ hP hD hS ls (lv_sub hl [1, 2, 3, 4, 0, 6] rfl)
              refine lv_if_ne (tgt := 52) hx hb dX7_ask_44 (by decide) (fun c44 => ?_) (fun c44 => ?_)
              · refine lv_iconst (v := 1) hx hb dX7_ask_52 (by decide) ?_
                refine lv_goto (tgt := 57) hx hb dX7_ask_53 (by decide) ?_
                exact C57 (1 : Int32) (by simp only [X7_ask_m57_s0, if_neg c10, if_neg c28, if_neg c44]) _ _ hP hD hS ls (lv_sub hl [1, 2, 3, 4, 6, 7, 0] rfl)
              · refine lv_iload hx hb dX7_ask_47 (lv_at hl 0 rfl) ?_
                refine lv_if_ne (tgt := 56) hx hb dX7_ask_49 (by decide) (fun c49 => ?_) (fun c49 => ?_)
                · refine lv_iconst (v := 0) hx hb dX7_ask_56 (by decide) ?_
                  exact C57 (0 : Int32) (by simp only [X7_ask_m57_s0, if_neg c10, if_neg c28, if_pos c44, if_neg c49]) _ _ hP hD hS ls (lv_sub hl [1, 2, 3, 4, 6, 7, 0] rfl)
                · refine lv_iconst (v := 1) hx hb dX7_ask_52 (by decide) ?_
                  refine lv_goto (tgt := 57) hx hb dX7_ask_53 (by decide) ?_
                  exact C57 (1 : Int32) (by simp only [X7_ask_m57_s0, if_neg c10, if_neg c28, if_pos c44, if_pos c49]) _ _ hP hD hS ls (lv_sub hl [1, 2, 3, 4, 6, 7, 0] rfl)
        exact L22 (v_many.toNatClampNeg + 1) 0 (0 : Int32) (0 : Int32) (by omega) (by omega)  rfl _ _ hP hD hS ls (lv_sub hl [3, 4, 5, 6, 2, 1, 0] rfl)
  exact L7 (16 + 1) 0 ((-6) : Int32) (0 : Int32) (by omega) (by omega)  rfl _ _ hP hD hS ls (lv_sub hl [3, 2, 1, 0] rfl)

def X7_told (v_signs : Int32) (v_many : Int32) (v_start : Nat → Int32) (v_mass : Nat → Int32) (v_told : Nat → Int32) (p_what : Int32) : Int32 := (if (X7_in p_what (10 : Int32) (20 : Int32)) = 0 then (if p_what = 0 then v_signs else (if p_what = (1 : Int32) then v_many else (if (X7_in p_what (2 : Int32) (3 : Int32)) = 0 then (if (X7_in p_what (4 : Int32) (5 : Int32)) = 0 then ((-2) : Int32) else (v_mass (p_what - (4 : Int32)).toNatClampNeg)) else (v_start (p_what - (2 : Int32)).toNatClampNeg)))) else (v_told (p_what - (10 : Int32)).toNatClampNeg))
abbrev rX7_told : Room := { frames := 1, cells := 0, slots := 0, locals := 22 }
theorem n_X7_told_X7 : ∀ w ∈ wsX70, w ∈ wsX7_told := by decide +kernel
set_option maxHeartbeats 8000000 in
set_option maxRecDepth 100000 in
theorem k_X7_told (l : Launch) (G : fxE) (hG : fxGood G) (D : va_G) (cI cJ cZ cH : ClassId) (a_start a_mass a_rows a_told a_sign a_kept a_ended a_cell a_loss a_read a_times a_gains a_image a_isKept a_this : Nat) (v_signs : Int32) (v_many : Int32) (v_left : Int64) (v_rime : Int64) (v_frost : Int64) (v_began : Int32) (v_last : Int32) (v_rounds : Int32) (v_seed : Int32) (v_start : Nat → Int32) (v_mass : Nat → Int32) (v_told : Nat → Int32) (p_what : Int32) : MetI l yX7_told wsX7_told rX7_told G D (tyL cI cJ cZ cH) [.ref a_this, .int p_what] [(a_this, .inr (7, [.ref a_start, .ref a_mass, .ref a_rows, .ref a_told, .int v_signs, .ref a_sign, .int v_many, .ref a_kept, .ref a_ended, .ref a_cell, .ref a_loss, .long v_left, .long v_rime, .long v_frost, .int v_began, .int v_last, .int v_rounds, .ref a_read, .ref a_times, .ref a_gains, .int v_seed, .ref a_image, .ref a_isKept])), (a_start, .inl (cI, 2, .inl v_start)), (a_mass, .inl (cI, 2, .inl v_mass)), (a_told, .inl (cI, 11, .inl v_told))] (X7_told v_signs v_many v_start v_mass v_told p_what) [(a_this, .inr (7, [.ref a_start, .ref a_mass, .ref a_rows, .ref a_told, .int v_signs, .ref a_sign, .int v_many, .ref a_kept, .ref a_ended, .ref a_cell, .ref a_loss, .long v_left, .long v_rime, .long v_frost, .int v_began, .int v_last, .int v_rounds, .ref a_read, .ref a_times, .ref a_gains, .int v_seed, .ref a_image, .ref a_isKept])), (a_start, .inl (cI, 2, .inl v_start)), (a_mass, .inl (cI, 2, .inl v_mass)), (a_told, .inl (cI, 11, .inl v_told))] := by
  refine fx_startI (cc := cX7_told) (n := 2) (rt := .int) (plainFor_of_name (by decide)) rfl (Nat.le_of_ble_eq_true rfl) rfl ?_
  intro p e s m args below meth c A Q ls hx hb hml hown hts hA hGs hK hP hD hS hl hret
  have hl : lv_has ls 2 [(0, .ref a_this), (1, .int p_what)] := hl
  have iX7 := n_X7_told_X7
  have f13 := hts (.fieldLink RX7 13 "FrozeFirstModel" "mass" "[I") (by decide +kernel)
  have f7 := hts (.fieldLink RX7 7 "FrozeFirstModel" "start" "[I") (by decide +kernel)
  have f184 := hts (.fieldLink RX7 184 "FrozeFirstModel" "many" "I") (by decide +kernel)
  have f171 := hts (.fieldLink RX7 171 "FrozeFirstModel" "signs" "I") (by decide +kernel)
  have f19 := hts (.fieldLink RX7 19 "FrozeFirstModel" "told" "[I") (by decide +kernel)
  refine lv_iload_n hx hb dX7_told_0 rfl (lv_at hl 1 rfl) ?_
  refine lv_bipush (v := 10) hx hb dX7_told_1 (by decide) ?_
  refine lv_bipush (v := 20) hx hb dX7_told_3 (by decide) ?_
  refine fx_callSI (As := [.int p_what, .int (10 : Int32), .int (20 : Int32)]) (rest := []) (wr := [(a_this, .inr (7, [.ref a_start, .ref a_mass, .ref a_rows, .ref a_told, .int v_signs, .ref a_sign, .int v_many, .ref a_kept, .ref a_ended, .ref a_cell, .ref a_loss, .long v_left, .long v_rime, .long v_frost, .int v_began, .int v_last, .int v_rounds, .ref a_read, .ref a_times, .ref a_gains, .int v_seed, .ref a_image, .ref a_isKept])), (a_start, .inl (cI, 2, .inl v_start)), (a_mass, .inl (cI, 2, .inl v_mass)), (a_told, .inl (cI, 11, .inl v_told))]) ⟨hx, hb, hml, hown, hts⟩ hG hGs (k_X7_in l G hG D cI cJ cZ cH p_what (10 : Int32) (20 : Int32)  ) (va_cwS 3 hts gX7_told_X7_in rfl rfl rfl (by decide +kernel) ⟨by decide, by decide⟩) hK hP hD hS hA [] [0, 1, 2, 3] rfl rfl (by decide) (by decide) (by decide) rfl rfl hl.1 (Nat.le_of_ble_eq_true rfl) dX7_told_5 (Nat.zero_le _) (Nat.zero_le _) (fun H locs hP hD hS => ?_)
  have hP : va_P D vwCl [(a_this, .inr (7, [.ref a_start, .ref a_mass, .ref a_rows, .ref a_told, .int v_signs, .ref a_sign, .int v_many, .ref a_kept, .ref a_ended, .ref a_cell, .ref a_loss, .long v_left, .long v_rime, .long v_frost, .int v_began, .int v_last, .int v_rounds, .ref a_read, .ref a_times, .ref a_gains, .int v_seed, .ref a_image, .ref a_isKept])), (a_start, .inl (cI, 2, .inl v_start)), (a_mass, .inl (cI, 2, .inl v_mass)), (a_told, .inl (cI, 11, .inl v_told))] H := hP
  have hD : va_D A [(a_this, .inr (7, [.ref a_start, .ref a_mass, .ref a_rows, .ref a_told, .int v_signs, .ref a_sign, .int v_many, .ref a_kept, .ref a_ended, .ref a_cell, .ref a_loss, .long v_left, .long v_rime, .long v_frost, .int v_began, .int v_last, .int v_rounds, .ref a_read, .ref a_times, .ref a_gains, .int v_seed, .ref a_image, .ref a_isKept])), (a_start, .inl (cI, 2, .inl v_start)), (a_mass, .inl (cI, 2, .inl v_mass)), (a_told, .inl (cI, 11, .inl v_told))] := hD
  refine lv_if_eq (tgt := 21) hx hb dX7_told_8 (by decide) (fun c8 => ?_) (fun c8 => ?_)
  · refine lv_iload_n hx hb dX7_told_21 rfl (lv_at hl 1 rfl) ?_
    refine lv_if_ne (tgt := 32) hx hb dX7_told_22 (by decide) (fun c22 => ?_) (fun c22 => ?_)
    · refine lv_iload_n hx hb dX7_told_32 rfl (lv_at hl 1 rfl) ?_
      refine lv_iconst (v := 1) hx hb dX7_told_33 (by decide) ?_
      refine lv_icmp_ne (tgt := 44) hx hb dX7_told_34 (by decide) (fun c34 => ?_) (fun c34 => ?_)
      · refine lv_iload_n hx hb dX7_told_44 rfl (lv_at hl 1 rfl) ?_
        refine lv_iconst (v := 2) hx hb dX7_told_45 (by decide) ?_
        refine lv_iconst (v := 3) hx hb dX7_told_46 (by decide) ?_
        refine fx_callSI (As := [.int p_what, .int (2 : Int32), .int (3 : Int32)]) (rest := []) (wr := [(a_this, .inr (7, [.ref a_start, .ref a_mass, .ref a_rows, .ref a_told, .int v_signs, .ref a_sign, .int v_many, .ref a_kept, .ref a_ended, .ref a_cell, .ref a_loss, .long v_left, .long v_rime, .long v_frost, .int v_began, .int v_last, .int v_rounds, .ref a_read, .ref a_times, .ref a_gains, .int v_seed, .ref a_image, .ref a_isKept])), (a_start, .inl (cI, 2, .inl v_start)), (a_mass, .inl (cI, 2, .inl v_mass)), (a_told, .inl (cI, 11, .inl v_told))]) ⟨hx, hb, hml, hown, hts⟩ hG hGs (k_X7_in l G hG D cI cJ cZ cH p_what (2 : Int32) (3 : Int32)  ) (va_cwS 3 hts gX7_told_X7_in rfl rfl rfl (by decide +kernel) ⟨by decide, by decide⟩) hK hP hD hS hA [] [0, 1, 2, 3] rfl rfl (by decide) (by decide) (by decide) rfl rfl hl.1 (Nat.le_of_ble_eq_true rfl) dX7_told_47 (Nat.zero_le _) (Nat.zero_le _) (fun H locs hP hD hS => ?_)
        have hP : va_P D vwCl [(a_this, .inr (7, [.ref a_start, .ref a_mass, .ref a_rows, .ref a_told, .int v_signs, .ref a_sign, .int v_many, .ref a_kept, .ref a_ended, .ref a_cell, .ref a_loss, .long v_left, .long v_rime, .long v_frost, .int v_began, .int v_last, .int v_rounds, .ref a_read, .ref a_times, .ref a_gains, .int v_seed, .ref a_image, .ref a_isKept])), (a_start, .inl (cI, 2, .inl v_start)), (a_mass, .inl (cI, 2, .inl v_mass)), (a_told, .inl (cI, 11, .inl v_told))] H := hP
        have hD : va_D A [(a_this, .inr (7, [.ref a_start, .ref a_mass, .ref a_rows, .ref a_told, .int v_signs, .ref a_sign, .int v_many, .ref a_kept, .ref a_ended, .ref a_cell, .ref a_loss, .long v_left, .long v_rime, .long v_frost, .int v_began, .int v_last, .int v_rounds, .ref a_read, .ref a_times, .ref a_gains, .int v_seed, .ref a_image, .ref a_isKept])), (a_start, .inl (cI, 2, .inl v_start)), (a_mass, .inl (cI, 2, .inl v_mass)), (a_told, .inl (cI, 11, .inl v_told))] := hD
        refine lv_if_eq (tgt := 64) hx hb dX7_told_50 (by decide) (fun c50 => ?_) (fun c50 => ?_)
        · refine lv_iload_n hx hb dX7_told_64 rfl (lv_at hl 1 rfl) ?_
          refine lv_iconst (v := 4) hx hb dX7_told_65 (by decide) ?_
          refine lv_iconst (v := 5) hx hb dX7_told_66 (by decide) ?_
          refine fx_callSI (As := [.int p_what, .int (4 : Int32), .int (5 : Int32)]) (rest := []) (wr := [(a_this, .inr (7, [.ref a_start, .ref a_mass, .ref a_rows, .ref a_told, .int v_signs, .ref a_sign, .int v_many, .ref a_kept, .ref a_ended, .ref a_cell, .ref a_loss, .long v_left, .long v_rime, .long v_frost, .int v_began, .int v_last, .int v_rounds, .ref a_read, .ref a_times, .ref a_gains, .int v_seed, .ref a_image, .ref a_isKept])), (a_start, .inl (cI, 2, .inl v_start)), (a_mass, .inl (cI, 2, .inl v_mass)), (a_told, .inl (cI, 11, .inl v_told))]) ⟨hx, hb, hml, hown, hts⟩ hG hGs (k_X7_in l G hG D cI cJ cZ cH p_what (4 : Int32) (5 : Int32)  ) (va_cwS 3 hts gX7_told_X7_in rfl rfl rfl (by decide +kernel) ⟨by decide, by decide⟩) hK hP hD hS hA [] [0, 1, 2, 3] rfl rfl (by decide) (by decide) (by decide) rfl rfl hl.1 (Nat.le_of_ble_eq_true rfl) dX7_told_67 (Nat.zero_le _) (Nat.zero_le _) (fun H locs hP hD hS => ?_)
          have hP : va_P D vwCl [(a_this, .inr (7, [.ref a_start, .ref a_mass, .ref a_rows, .ref a_told, .int v_signs, .ref a_sign, .int v_many, .ref a_kept, .ref a_ended, .ref a_cell, .ref a_loss, .long v_left, .long v_rime, .long v_frost, .int v_began, .int v_last, .int v_rounds, .ref a_read, .ref a_times, .ref a_gains, .int v_seed, .ref a_image, .ref a_isKept])), (a_start, .inl (cI, 2, .inl v_start)), (a_mass, .inl (cI, 2, .inl v_mass)), (a_told, .inl (cI, 11, .inl v_told))] H := hP
          have hD : va_D A [(a_this, .inr (7, [.ref a_start, .ref a_mass, .ref a_rows, .ref a_told, .int v_signs, .ref a_sign, .int v_many, .ref a_kept, .ref a_ended, .ref a_cell, .ref a_loss, .long v_left, .long v_rime, .long v_frost, .int v_began, .int v_last, .int v_rounds, .ref a_read, .ref a_times, .ref a_gains, .int v_seed, .ref a_image, .ref a_isKept])), (a_start, .inl (cI, 2, .inl v_start)), (a_mass, .inl (cI, 2, .inl v_mass)), (a_told, .inl (cI, 11, .inl v_told))] := hD
          refine lv_if_eq (tgt := 84) hx hb dX7_told_70 (by decide) (fun c70 => ?_) (fun c70 => ?_)
          · refine lv_bipush (v := (-2)) hx hb dX7_told_84 (by decide) ?_
            exact hret _ _ _ _ _ _ dX7_told_86 (by simp only [X7_told, if_pos c8, if_neg c22, if_neg c34, if_pos c50, if_pos c70]) rfl hP hD hS
          · refine lv_aload_n hx hb dX7_told_73 rfl (lv_at hl 0 rfl) ?_
            refine va_get (D := D) (ci := 7) (v := .ref a_mass) (C := RX7) (T := TX7) (N := 23) hx hb hts iX7 hown hK hP 0 rfl rfl 1 (by decide) f13 (fun _ h9 => h9) rfl dX7_told_74 ?_
            refine lv_iload_n hx hb dX7_told_77 rfl (lv_at hl 1 rfl) ?_
            refine lv_iconst (v := 4) hx hb dX7_told_78 (by decide) ?_
            refine lv_isub hx hb dX7_told_79 ?_
            refine va_iald hx hb hK hP 2 0 rfl rfl (fx_off (A := 4) (B := 5) rfl rfl (by decide) c70 (by decide)) dX7_told_80 ?_
            refine lv_goto (tgt := 86) hx hb dX7_told_81 (by decide) ?_
            exact hret _ _ _ _ _ _ dX7_told_86 (by simp only [X7_told, if_pos c8, if_neg c22, if_neg c34, if_pos c50, if_neg c70]) rfl hP hD hS
        · refine lv_aload_n hx hb dX7_told_53 rfl (lv_at hl 0 rfl) ?_
          refine va_get (D := D) (ci := 7) (v := .ref a_start) (C := RX7) (T := TX7) (N := 23) hx hb hts iX7 hown hK hP 0 rfl rfl 0 (by decide) f7 (fun _ h9 => h9) rfl dX7_told_54 ?_
          refine lv_iload_n hx hb dX7_told_57 rfl (lv_at hl 1 rfl) ?_
          refine lv_iconst (v := 2) hx hb dX7_told_58 (by decide) ?_
          refine lv_isub hx hb dX7_told_59 ?_
          refine va_iald hx hb hK hP 1 0 rfl rfl (fx_off (A := 2) (B := 3) rfl rfl (by decide) c50 (by decide)) dX7_told_60 ?_
          refine lv_goto (tgt := 86) hx hb dX7_told_61 (by decide) ?_
          exact hret _ _ _ _ _ _ dX7_told_86 (by simp only [X7_told, if_pos c8, if_neg c22, if_neg c34, if_neg c50]) rfl hP hD hS
      · refine lv_aload_n hx hb dX7_told_37 rfl (lv_at hl 0 rfl) ?_
        refine va_get (D := D) (ci := 7) (v := .int v_many) (C := RX7) (T := TX7) (N := 23) hx hb hts iX7 hown hK hP 0 rfl rfl 6 (by decide) f184 (fun _ h9 => h9) rfl dX7_told_38 ?_
        refine lv_goto (tgt := 86) hx hb dX7_told_41 (by decide) ?_
        exact hret _ _ _ _ _ _ dX7_told_86 (by simp only [X7_told, if_pos c8, if_neg c22, if_pos c34]) rfl hP hD hS
    · refine lv_aload_n hx hb dX7_told_25 rfl (lv_at hl 0 rfl) ?_
      refine va_get (D := D) (ci := 7) (v := .int v_signs) (C := RX7) (T := TX7) (N := 23) hx hb hts iX7 hown hK hP 0 rfl rfl 4 (by decide) f171 (fun _ h9 => h9) rfl dX7_told_26 ?_
      refine lv_goto (tgt := 86) hx hb dX7_told_29 (by decide) ?_
      exact hret _ _ _ _ _ _ dX7_told_86 (by simp only [X7_told, if_pos c8, if_pos c22]) rfl hP hD hS
  · refine lv_aload_n hx hb dX7_told_11 rfl (lv_at hl 0 rfl) ?_
    refine va_get (D := D) (ci := 7) (v := .ref a_told) (C := RX7) (T := TX7) (N := 23) hx hb hts iX7 hown hK hP 0 rfl rfl 3 (by decide) f19 (fun _ h9 => h9) rfl dX7_told_12 ?_
    refine lv_iload_n hx hb dX7_told_15 rfl (lv_at hl 1 rfl) ?_
    refine lv_bipush (v := 10) hx hb dX7_told_16 (by decide) ?_
    refine lv_isub hx hb dX7_told_18 ?_
    refine va_iald hx hb hK hP 3 0 rfl rfl (fx_off (A := 10) (B := 20) rfl rfl (by decide) c8 (by decide)) dX7_told_19 ?_
    exact hret _ _ _ _ _ _ dX7_told_20 (by simp only [X7_told, if_neg c8]) rfl hP hD hS
