def X6_commonDivisor_L9 : Nat → Nat → Int64 → Int64 → Nat × Int64 × Int64
  | 0, j9, x9_l4, x9_l6 => (j9, x9_l4, x9_l6)
  | n + 1, j9, x9_l4, x9_l6 => (if (200 : Int32) ≤ nI j9 then (j9, x9_l4, x9_l6) else (if x9_l6 = (0 : Int64) then (j9, x9_l4, x9_l6) else (X6_commonDivisor_L9 n (j9 + 1) x9_l6 (x9_l4 - x9_l4 / x9_l6 * x9_l6))))
def X6_commonDivisor (p_a : Int64) (p_b : Int64) : Int64 := ((X6_commonDivisor_L9 201 0 p_a p_b).2.1)
abbrev rX6_commonDivisor : Room := { frames := 0, cells := 0, slots := 0, locals := 0 }
set_option maxHeartbeats 8000000 in
set_option maxRecDepth 100000 in
theorem k_X6_commonDivisor (l : Launch) (G : fxE) (hG : fxGood G) (D : va_G) (cI cJ cZ cH : ClassId) (p_a : Int64) (p_b : Int64) : MetL l yX6_commonDivisor wsX6_commonDivisor rX6_commonDivisor G D (tyL cI cJ cZ cH) [.long p_a, .long p_b] [] (X6_commonDivisor p_a p_b) [] := by
  refine fx_startL (cc := cX6_commonDivisor) (n := 11) (plainFor_of_name (by decide)) rfl (Nat.le_of_ble_eq_true rfl) ?_
  intro p e s m args below meth c A Q ls hx hb hml hown hts hA hGs hK hP hD hS hl hret
  have hl : lv_has ls 11 [(0, .long p_a), (2, .long p_b)] := hl
  refine lv_lload_n hx hb dX6_commonDivisor_0 rfl (lv_at hl 0 rfl) ?_
  refine lv_lstore (lv' := [(4, .long p_a), (0, .long p_a), (2, .long p_b)]) hx hb dX6_commonDivisor_1 hl (by decide) rfl (fun ls hl => ?_)
  refine lv_lload_n hx hb dX6_commonDivisor_3 rfl (lv_at hl 2 rfl) ?_
  refine lv_lstore (lv' := [(6, .long p_b), (4, .long p_a), (0, .long p_a), (2, .long p_b)]) hx hb dX6_commonDivisor_4 hl (by decide) rfl (fun ls hl => ?_)
  refine lv_iconst (v := 0) hx hb dX6_commonDivisor_6 (by decide) ?_
  refine lv_istore (lv' := [(8, .int (0 : Int32)), (6, .long p_b), (4, .long p_a), (0, .long p_a), (2, .long p_b)]) hx hb dX6_commonDivisor_7 hl (by decide) rfl (fun ls hl => ?_)
  have L9 : ∀ (n : Nat) (j9 : Nat) (x9_l4 : Int64) (x9_l6 : Int64), 200 - j9 < n → j9 ≤ 200 → X6_commonDivisor_L9 n j9 x9_l4 x9_l6 = (X6_commonDivisor_L9 201 0 p_a p_b) → ∀ (H : Heap) (locs : List Loc), va_P D vwCl [] H → va_D A [] → va_S A s.heap H locs → ∀ (ls : Array Slot), lv_has ls 11 [(4, .long x9_l4), (6, .long x9_l6), (8, .int (nI j9))] → W p l e rX6_commonDivisor s m args below meth c H locs 0 0 Q (F0 m 9 ls []) := by
    intro n
    induction n with
    | zero => intro j9 x9_l4 x9_l6 h1; exact absurd h1 (Nat.not_lt_zero _)
    | succ n ih9 =>
      intro j9 x9_l4 x9_l6 hm9 hj9 hF9 H locs hP hD hS ls hl
      refine lv_iload hx hb dX6_commonDivisor_9 (lv_at hl 2 rfl) ?_
      refine lv_sipush (v := 200) hx hb dX6_commonDivisor_11 (by decide) ?_
      refine lv_icmp_ge (tgt := 45) hx hb dX6_commonDivisor_14 (by decide) (fun c14 => ?_) (fun c14 => ?_)
      · have n14 : 200 ≤ j9 := (fx_leN (x := (200 : Int32)) (y := (nI j9)) (a := 200) (b := j9) rfl rfl (by omega) (by omega)).mp c14
        have hx9 : (X6_commonDivisor_L9 201 0 p_a p_b) = (j9, x9_l4, x9_l6) := by rw [← hF9]; simp only [X6_commonDivisor_L9, if_pos c14]
        have q9_0 : j9 = (X6_commonDivisor_L9 201 0 p_a p_b).1 := by rw [hx9]
        have q9_1 : x9_l4 = (X6_commonDivisor_L9 201 0 p_a p_b).2.1 := by rw [hx9]
        have q9_2 : x9_l6 = (X6_commonDivisor_L9 201 0 p_a p_b).2.2 := by rw [hx9]
        subst q9_0
        subst q9_1
        subst q9_2
        have hl := lv_sub (l' := [(4, .long ((X6_commonDivisor_L9 201 0 p_a p_b).2.1))]) hl [0] rfl
        have hP : va_P D vwCl [] H := hP
        have hD : va_D A [] := hD
        refine lv_lload hx hb dX6_commonDivisor_45 (lv_at hl 0 rfl) ?_
        exact hret _ _ _ _ _ _ dX6_commonDivisor_47 (by simp only [X6_commonDivisor, if_pos c14]) rfl hP hD hS
      · have n14 : ¬ (200 ≤ j9) := fun h9 => c14 ((fx_leN (x := (200 : Int32)) (y := (nI j9)) (a := 200) (b := j9) rfl rfl (by omega) (by omega)).mpr h9)
        refine lv_lload hx hb dX6_commonDivisor_17 (lv_at hl 1 rfl) ?_
        refine lv_lconst (v := 0) hx hb dX6_commonDivisor_19 (by decide) ?_
        refine fx_lc_eq (tgt := 45) hx hb dX6_commonDivisor_20 dX6_commonDivisor_21 (by decide) (fun c20 => ?_) (fun c20 => ?_)
        · have hx9 : (X6_commonDivisor_L9 201 0 p_a p_b) = (j9, x9_l4, x9_l6) := by rw [← hF9]; simp only [X6_commonDivisor_L9, if_neg c14, if_pos c20]
          have q9_0 : j9 = (X6_commonDivisor_L9 201 0 p_a p_b).1 := by rw [hx9]
          have q9_1 : x9_l4 = (X6_commonDivisor_L9 201 0 p_a p_b).2.1 := by rw [hx9]
          have q9_2 : x9_l6 = (X6_commonDivisor_L9 201 0 p_a p_b).2.2 := by rw [hx9]
          subst q9_0
          subst q9_1
          subst q9_2
          have hl := lv_sub (l' := [(4, .long ((X6_commonDivisor_L9 201 0 p_a p_b).2.1))]) hl [0] rfl
          have hP : va_P D vwCl [] H := hP
          have hD : va_D A [] := hD
          refine lv_lload hx hb dX6_commonDivisor_45 (lv_at hl 0 rfl) ?_
          exact hret _ _ _ _ _ _ dX6_commonDivisor_47 (by simp only [X6_commonDivisor, if_neg c14, if_pos c20]) rfl hP hD hS
        · refine lv_lload hx hb dX6_commonDivisor_24 (lv_at hl 0 rfl) ?_
          refine lv_lload hx hb dX6_commonDivisor_26 (lv_at hl 1 rfl) ?_
          refine lv_lrem hx hb dX6_commonDivisor_28 c20 ?_
          refine lv_lstore (lv' := [(9, .long (x9_l4 - x9_l4 / x9_l6 * x9_l6)), (4, .long x9_l4), (6, .long x9_l6), (8, .int (nI j9))]) hx hb dX6_commonDivisor_29 hl (by decide) rfl (fun ls hl => ?_)
          refine lv_lload hx hb dX6_commonDivisor_31 (lv_at hl 2 rfl) ?_
          refine lv_lstore (lv' := [(4, .long x9_l6), (9, .long (x9_l4 - x9_l4 / x9_l6 * x9_l6)), (6, .long x9_l6), (8, .int (nI j9))]) hx hb dX6_commonDivisor_33 hl (by decide) rfl (fun ls hl => ?_)
          refine lv_lload hx hb dX6_commonDivisor_35 (lv_at hl 1 rfl) ?_
          refine lv_lstore (lv' := [(6, .long (x9_l4 - x9_l4 / x9_l6 * x9_l6)), (4, .long x9_l6), (9, .long (x9_l4 - x9_l4 / x9_l6 * x9_l6)), (8, .int (nI j9))]) hx hb dX6_commonDivisor_37 hl (by decide) rfl (fun ls hl => ?_)
          refine lv_iinc (v := nI (j9 + 1)) (lv' := [(8, .int (nI (j9 + 1))), (6, .long (x9_l4 - x9_l4 / x9_l6 * x9_l6)), (4, .long x9_l6), (9, .long (x9_l4 - x9_l4 / x9_l6 * x9_l6))]) hx hb dX6_commonDivisor_39 hl (k := 3) rfl (fx_inc _ 1) (by decide) rfl (fun ls hl => ?_)
          refine lv_goto (tgt := 9) hx hb dX6_commonDivisor_42 (by decide) ?_
          exact ih9 (j9 + 1) x9_l6 (x9_l4 - x9_l4 / x9_l6 * x9_l6) (by omega) (by omega) (by rw [← hF9]; simp only [X6_commonDivisor_L9, if_neg c14, if_neg c20]) _ _ hP hD hS ls (lv_sub hl [2, 1, 0] rfl)
  exact L9 201 0 p_a p_b (by omega) (by omega) rfl _ _ hP hD hS ls (lv_sub hl [2, 1, 0] rfl)

def X6_partOf_m26_s0 (p_upper : Int64) (p_lower : Int64) (p_part : Int32) : Int64 := (if p_part = 0 then p_upper else p_lower)
def X6_partOf (p_upper : Int64) (p_lower : Int64) (p_part : Int32) : Int64 := (if (1 : Int64) ≤ (X6_commonDivisor p_upper p_lower) then ((X6_partOf_m26_s0 p_upper p_lower p_part) / (X6_commonDivisor p_upper p_lower)) else (0 : Int64))
abbrev rX6_partOf : Room := { frames := 1, cells := 0, slots := 0, locals := 30 }
set_option maxHeartbeats 8000000 in
set_option maxRecDepth 100000 in
theorem k_X6_partOf (l : Launch) (G : fxE) (hG : fxGood G) (D : va_G) (cI cJ cZ cH : ClassId) (p_upper : Int64) (p_lower : Int64) (p_part : Int32) : MetL l yX6_partOf wsX6_partOf rX6_partOf G D (tyL cI cJ cZ cH) [.long p_upper, .long p_lower, .int p_part] [] (X6_partOf p_upper p_lower p_part) [] := by
  refine fx_startL (cc := cX6_partOf) (n := 7) (plainFor_of_name (by decide)) rfl (Nat.le_of_ble_eq_true rfl) ?_
  intro p e s m args below meth c A Q ls hx hb hml hown hts hA hGs hK hP hD hS hl hret
  have hl : lv_has ls 7 [(0, .long p_upper), (2, .long p_lower), (4, .int p_part)] := hl
  refine lv_lload_n hx hb dX6_partOf_0 rfl (lv_at hl 0 rfl) ?_
  refine lv_lload_n hx hb dX6_partOf_1 rfl (lv_at hl 1 rfl) ?_
  refine fx_callSL (As := [.long p_upper, .long p_lower]) (rest := []) (wr := []) ⟨hx, hb, hml, hown, hts⟩ hG hGs (k_X6_commonDivisor l G hG D cI cJ cZ cH p_upper p_lower  ) (va_cwS 2 hts gX6_partOf_X6_commonDivisor rfl rfl rfl (by decide +kernel) ⟨by decide, by decide⟩) hK hP hD hS hA [] [] rfl rfl (by decide) (by decide) (by decide) rfl rfl hl.1 (Nat.le_of_ble_eq_true rfl) dX6_partOf_2 (Nat.zero_le _) (Nat.zero_le _) (fun H locs hP hD hS => ?_)
  have hP : va_P D vwCl [] H := hP
  have hD : va_D A [] := hD
  refine lv_lstore (lv' := [(5, .long (X6_commonDivisor p_upper p_lower)), (0, .long p_upper), (2, .long p_lower), (4, .int p_part)]) hx hb dX6_partOf_5 hl (by decide) rfl (fun ls hl => ?_)
  refine lv_lload hx hb dX6_partOf_7 (lv_at hl 0 rfl) ?_
  refine lv_lconst (v := 1) hx hb dX6_partOf_9 (by decide) ?_
  refine fx_lc_ge (tgt := 16) hx hb dX6_partOf_10 dX6_partOf_11 (by decide) (fun c10 => ?_) (fun c10 => ?_)
  · refine lv_iload hx hb dX6_partOf_16 (lv_at hl 3 rfl) ?_
    have C26 : ∀ (x26_s0 : Int64), (X6_partOf_m26_s0 p_upper p_lower p_part) = x26_s0 → ∀ (H : Heap) (locs : List Loc), va_P D vwCl [] H → va_D A [] → va_S A s.heap H locs → ∀ (ls : Array Slot), lv_has ls 7 [(5, .long (X6_commonDivisor p_upper p_lower))] → W p l e rX6_partOf s m args below meth c H locs 0 0 Q (F0 m 26 ls [.long x26_s0]) := by
      intro x26_s0 hx26_s0 H locs hP hD hS ls hl
      subst hx26_s0
      refine lv_lload hx hb dX6_partOf_26 (lv_at hl 0 rfl) ?_
      refine lv_ldiv hx hb dX6_partOf_28 (fx_ne1L c10) ?_
      exact hret _ _ _ _ _ _ dX6_partOf_29 (by simp only [X6_partOf, if_pos c10]) rfl hP hD hS
    refine lv_if_ne (tgt := 25) hx hb dX6_partOf_18 (by decide) (fun c18 => ?_) (fun c18 => ?_)
    · refine lv_lload_n hx hb dX6_partOf_25 rfl (lv_at hl 2 rfl) ?_
      exact C26 p_lower (by simp only [X6_partOf_m26_s0, if_pos c10, if_neg c18]) _ _ hP hD hS ls (lv_sub hl [0] rfl)
    · refine lv_lload_n hx hb dX6_partOf_21 rfl (lv_at hl 1 rfl) ?_
      refine lv_goto (tgt := 26) hx hb dX6_partOf_22 (by decide) ?_
      exact C26 p_upper (by simp only [X6_partOf_m26_s0, if_pos c10, if_pos c18]) _ _ hP hD hS ls (lv_sub hl [0] rfl)
  · refine lv_lconst (v := 0) hx hb dX6_partOf_14 (by decide) ?_
    exact hret _ _ _ _ _ _ dX6_partOf_15 (by simp only [X6_partOf, if_neg c10]) rfl hP hD hS

def X6_waysOfAtLeast_m26_l4 (p_k : Int32) (j8 : Nat) (x8_l2 : Int64) (x8_l4 : Int64) : Int64 := (if nI j8 < p_k then x8_l4 else (x8_l4 + x8_l2))
def X6_waysOfAtLeast_L8 (p_k : Int32) (p_n : Int32) : Nat → Int64 × Int64
  | 0 => ((1 : Int64), (0 : Int64))
  | j8 + 1 => ((((X6_waysOfAtLeast_L8 p_k p_n j8).1 * (p_n - nI j8).toInt64) / (nI (j8 + 1)).toInt64), (X6_waysOfAtLeast_m26_l4 p_k j8 (X6_waysOfAtLeast_L8 p_k p_n j8).1 (X6_waysOfAtLeast_L8 p_k p_n j8).2))
def X6_waysOfAtLeast (p_k : Int32) (p_n : Int32) : Int64 := ((X6_waysOfAtLeast_L8 p_k p_n (p_n.toNatClampNeg + 1)).2)
abbrev rX6_waysOfAtLeast : Room := { frames := 0, cells := 0, slots := 0, locals := 0 }
set_option maxHeartbeats 8000000 in
set_option maxRecDepth 100000 in
theorem k_X6_waysOfAtLeast (l : Launch) (G : fxE) (hG : fxGood G) (D : va_G) (cI cJ cZ cH : ClassId) (p_k : Int32) (p_n : Int32) (hn0 : 0 ≤ p_n) (hn1 : p_n ≤ 40) : MetL l yX6_waysOfAtLeast wsX6_waysOfAtLeast rX6_waysOfAtLeast G D (tyL cI cJ cZ cH) [.int p_k, .int p_n] [] (X6_waysOfAtLeast p_k p_n) [] := by
  refine fx_startL (cc := cX6_waysOfAtLeast) (n := 7) (plainFor_of_name (by decide)) rfl (Nat.le_of_ble_eq_true rfl) ?_
  intro p e s m args below meth c A Q ls hx hb hml hown hts hA hGs hK hP hD hS hl hret
  have hl : lv_has ls 7 [(0, .int p_k), (1, .int p_n)] := hl
  have e_n := fx_tn hn0
  have b_n := fx_tb (N := 40) (n := 40) rfl (by decide) hn0 hn1
  refine lv_lconst (v := 1) hx hb dX6_waysOfAtLeast_0 (by decide) ?_
  refine lv_lstore_n (lv' := [(2, .long (1 : Int64)), (0, .int p_k), (1, .int p_n)]) hx hb dX6_waysOfAtLeast_1 rfl hl (by decide) rfl (fun ls hl => ?_)
  refine lv_lconst (v := 0) hx hb dX6_waysOfAtLeast_2 (by decide) ?_
  refine lv_lstore (lv' := [(4, .long (0 : Int64)), (2, .long (1 : Int64)), (0, .int p_k), (1, .int p_n)]) hx hb dX6_waysOfAtLeast_3 hl (by decide) rfl (fun ls hl => ?_)
  refine lv_iconst (v := 0) hx hb dX6_waysOfAtLeast_5 (by decide) ?_
  refine lv_istore (lv' := [(6, .int (0 : Int32)), (4, .long (0 : Int64)), (2, .long (1 : Int64)), (0, .int p_k), (1, .int p_n)]) hx hb dX6_waysOfAtLeast_6 hl (by decide) rfl (fun ls hl => ?_)
  have L8 : ∀ (n j8 : Nat) (x8_l2 : Int64) (x8_l4 : Int64), j8 ≤ (p_n.toNatClampNeg + 1) → (p_n.toNatClampNeg + 1) + 1 ≤ j8 + n → X6_waysOfAtLeast_L8 p_k p_n j8 = (x8_l2, x8_l4) → ∀ (H : Heap) (locs : List Loc), va_P D vwCl [] H → va_D A [] → va_S A s.heap H locs → ∀ (ls : Array Slot), lv_has ls 7 [(0, .int p_k), (1, .int p_n), (2, .long x8_l2), (4, .long x8_l4), (6, .int (nI j8))] → W p l e rX6_waysOfAtLeast s m args below meth c H locs 0 0 Q (F0 m 8 ls []) := by
    intro n
    induction n with
    | zero => intro j8 x8_l2 x8_l4 h1 h2; exact absurd h2 (by omega)
    | succ n ih8 =>
      intro j8 x8_l2 x8_l4 hj8 hn8  hx8 H locs hP hD hS ls hl
      refine lv_iload hx hb dX6_waysOfAtLeast_8 (lv_at hl 4 rfl) ?_
      refine lv_iload_n hx hb dX6_waysOfAtLeast_10 rfl (lv_at hl 1 rfl) ?_
      refine lv_icmp_gt (tgt := 46) hx hb dX6_waysOfAtLeast_11 (by decide) (fun c11 => ?_) (fun c11 => ?_)
      · have n11 : p_n.toNatClampNeg < j8 := (fx_ltN (x := p_n) (y := (nI j8)) (a := p_n.toNatClampNeg) (b := j8) e_n rfl (by omega) (by omega)).mp c11
        have e8 : (p_n.toNatClampNeg + 1) = j8 := by omega
        subst e8
        have q8_0 : x8_l2 = (X6_waysOfAtLeast_L8 p_k p_n (p_n.toNatClampNeg + 1)).1 := by rw [hx8]
        have q8_1 : x8_l4 = (X6_waysOfAtLeast_L8 p_k p_n (p_n.toNatClampNeg + 1)).2 := by rw [hx8]
        subst q8_0
        subst q8_1
        have hl := lv_sub (l' := [(4, .long ((X6_waysOfAtLeast_L8 p_k p_n (p_n.toNatClampNeg + 1)).2))]) hl [3] rfl
        have hP : va_P D vwCl [] H := hP
        have hD : va_D A [] := hD
        refine lv_lload hx hb dX6_waysOfAtLeast_46 (lv_at hl 0 rfl) ?_
        exact hret _ _ _ _ _ _ dX6_waysOfAtLeast_48 (by simp only [X6_waysOfAtLeast, if_pos c11]) rfl hP hD hS
      · have n11 : ¬ (p_n.toNatClampNeg < j8) := fun h9 => c11 ((fx_ltN (x := p_n) (y := (nI j8)) (a := p_n.toNatClampNeg) (b := j8) e_n rfl (by omega) (by omega)).mpr h9)
        refine lv_iload hx hb dX6_waysOfAtLeast_14 (lv_at hl 4 rfl) ?_
        refine lv_iload_n hx hb dX6_waysOfAtLeast_16 rfl (lv_at hl 0 rfl) ?_
        have C26 : ∀ (x26_l4 : Int64), (X6_waysOfAtLeast_m26_l4 p_k j8 x8_l2 x8_l4) = x26_l4 → ∀ (H : Heap) (locs : List Loc), va_P D vwCl [] H → va_D A [] → va_S A s.heap H locs → ∀ (ls : Array Slot), lv_has ls 7 [(0, .int p_k), (1, .int p_n), (2, .long x8_l2), (4, .long x26_l4), (6, .int (nI j8))] → W p l e rX6_waysOfAtLeast s m args below meth c H locs 0 0 Q (F0 m 26 ls []) := by
          intro x26_l4 hx26_l4 H locs hP hD hS ls hl
          subst hx26_l4
          refine lv_lload_n hx hb dX6_waysOfAtLeast_26 rfl (lv_at hl 2 rfl) ?_
          refine lv_iload_n hx hb dX6_waysOfAtLeast_27 rfl (lv_at hl 1 rfl) ?_
          refine lv_iload hx hb dX6_waysOfAtLeast_28 (lv_at hl 4 rfl) ?_
          refine lv_isub hx hb dX6_waysOfAtLeast_30 ?_
          refine lv_i2l hx hb dX6_waysOfAtLeast_31 rfl ?_
          refine lv_lmul hx hb dX6_waysOfAtLeast_32 ?_
          refine lv_iload hx hb dX6_waysOfAtLeast_33 (lv_at hl 4 rfl) ?_
          refine lv_iconst (v := 1) hx hb dX6_waysOfAtLeast_35 (by decide) ?_
          refine lv_iadd hx hb dX6_waysOfAtLeast_36 ?_
          refine W.eq (g2 := F0 m 37 ls (.int (nI (j8 + 1)) :: [.long (x8_l2 * (p_n - nI j8).toInt64)])) (congrArg (fun z9 : Int32 => F0 m 37 ls (.int z9 :: [.long (x8_l2 * (p_n - nI j8).toInt64)])) (fx_addN (x := nI j8) (y := (1 : Int32)) (a := j8) (b := 1) rfl rfl)) ?_
          refine lv_i2l hx hb dX6_waysOfAtLeast_37 rfl ?_
          refine lv_ldiv hx hb dX6_waysOfAtLeast_38 (fx_nzl (by omega) (by omega)) ?_
          refine lv_lstore_n (lv' := [(2, .long ((x8_l2 * (p_n - nI j8).toInt64) / (nI (j8 + 1)).toInt64)), (0, .int p_k), (1, .int p_n), (4, .long (X6_waysOfAtLeast_m26_l4 p_k j8 x8_l2 x8_l4)), (6, .int (nI j8))]) hx hb dX6_waysOfAtLeast_39 rfl hl (by decide) rfl (fun ls hl => ?_)
          refine lv_iinc (v := nI (j8 + 1)) (lv' := [(6, .int (nI (j8 + 1))), (2, .long ((x8_l2 * (p_n - nI j8).toInt64) / (nI (j8 + 1)).toInt64)), (0, .int p_k), (1, .int p_n), (4, .long (X6_waysOfAtLeast_m26_l4 p_k j8 x8_l2 x8_l4))]) hx hb dX6_waysOfAtLeast_40 hl (k := 4) rfl (fx_inc _ 1) (by decide) rfl (fun ls hl => ?_)
          refine lv_goto (tgt := 8) hx hb dX6_waysOfAtLeast_43 (by decide) ?_
          exact ih8 (j8 + 1) ((x8_l2 * (p_n - nI j8).toInt64) / (nI (j8 + 1)).toInt64) (X6_waysOfAtLeast_m26_l4 p_k j8 x8_l2 x8_l4) (by omega) (by omega)  (by simp only [X6_waysOfAtLeast_L8, hx8, if_neg c11]) _ _ hP hD hS ls (lv_sub hl [2, 3, 1, 4, 0] rfl)
        refine lv_icmp_lt (tgt := 26) hx hb dX6_waysOfAtLeast_17 (by decide) (fun c17 => ?_) (fun c17 => ?_)
        · exact C26 x8_l4 (by simp only [X6_waysOfAtLeast_m26_l4, if_neg c11, if_pos c17]) _ _ hP hD hS ls (lv_sub hl [0, 1, 2, 3, 4] rfl)
        · refine lv_lload hx hb dX6_waysOfAtLeast_20 (lv_at hl 3 rfl) ?_
          refine lv_lload_n hx hb dX6_waysOfAtLeast_22 rfl (lv_at hl 2 rfl) ?_
          refine lv_ladd hx hb dX6_waysOfAtLeast_23 ?_
          refine lv_lstore (lv' := [(4, .long (x8_l4 + x8_l2)), (0, .int p_k), (1, .int p_n), (2, .long x8_l2), (6, .int (nI j8))]) hx hb dX6_waysOfAtLeast_24 hl (by decide) rfl (fun ls hl => ?_)
          exact C26 (x8_l4 + x8_l2) (by simp only [X6_waysOfAtLeast_m26_l4, if_neg c11, if_neg c17]) _ _ hP hD hS ls (lv_sub hl [1, 2, 3, 0, 4] rfl)
  exact L8 ((p_n.toNatClampNeg + 1) + 1) 0 (1 : Int64) (0 : Int64) (by omega) (by omega)  rfl _ _ hP hD hS ls (lv_sub hl [3, 4, 2, 1, 0] rfl)

def X6_chance (p_k : Int32) (p_n : Int32) (p_part : Int32) : Int64 := (if (X6_within p_n (1 : Int32) (40 : Int32)) = 0 then (-1000000000000000002 : Int64) else (if (X6_within p_k (0 : Int32) p_n) = 0 then (-1000000000000000002 : Int64) else (if (X6_isPart p_part) = 0 then (-1000000000000000002 : Int64) else (X6_partOf (X6_waysOfAtLeast p_k p_n) ((1 : Int64) <<< (p_n.toInt64 &&& 63)) p_part))))
abbrev rX6_chance : Room := { frames := 2, cells := 0, slots := 0, locals := 56 }
set_option maxHeartbeats 8000000 in
set_option maxRecDepth 100000 in
theorem k_X6_chance (l : Launch) (G : fxE) (hG : fxGood G) (D : va_G) (cI cJ cZ cH : ClassId) (a_this : Nat) (p_k : Int32) (p_n : Int32) (p_part : Int32) : MetL l yX6_chance wsX6_chance rX6_chance G D (tyL cI cJ cZ cH) [.ref a_this, .int p_k, .int p_n, .int p_part] [] (X6_chance p_k p_n p_part) [] := by
  refine fx_startL (cc := cX6_chance) (n := 4) (plainFor_of_name (by decide)) rfl (Nat.le_of_ble_eq_true rfl) ?_
  intro p e s m args below meth c A Q ls hx hb hml hown hts hA hGs hK hP hD hS hl hret
  have hl : lv_has ls 4 [(0, .ref a_this), (1, .int p_k), (2, .int p_n), (3, .int p_part)] := hl
  have k136 := hts (.constantLong RX6 136 (-1000000000000000002)) (by decide +kernel)
  refine lv_iload_n hx hb dX6_chance_0 rfl (lv_at hl 2 rfl) ?_
  refine lv_iconst (v := 1) hx hb dX6_chance_1 (by decide) ?_
  refine lv_bipush (v := 40) hx hb dX6_chance_2 (by decide) ?_
  refine fx_callSI (As := [.int p_n, .int (1 : Int32), .int (40 : Int32)]) (rest := []) (wr := []) ⟨hx, hb, hml, hown, hts⟩ hG hGs (k_X6_within l G hG D cI cJ cZ cH p_n (1 : Int32) (40 : Int32)  ) (va_cwS 3 hts gX6_chance_X6_within rfl rfl rfl (by decide +kernel) ⟨by decide, by decide⟩) hK hP hD hS hA [] [] rfl rfl (by decide) (by decide) (by decide) rfl rfl hl.1 (Nat.le_of_ble_eq_true rfl) dX6_chance_4 (Nat.zero_le _) (Nat.zero_le _) (fun H locs hP hD hS => ?_)
  have hP : va_P D vwCl [] H := hP
  have hD : va_D A [] := hD
  refine lv_if_eq (tgt := 26) hx hb dX6_chance_7 (by decide) (fun c7 => ?_) (fun c7 => ?_)
  · refine lv_ldc2 (v := (-1000000000000000002)) hx hb hown k136 dX6_chance_26 ?_
    exact hret _ _ _ _ _ _ dX6_chance_29 (by simp only [X6_chance, if_pos c7]) rfl hP hD hS
  · refine lv_iload_n hx hb dX6_chance_10 rfl (lv_at hl 1 rfl) ?_
    refine lv_iconst (v := 0) hx hb dX6_chance_11 (by decide) ?_
    refine lv_iload_n hx hb dX6_chance_12 rfl (lv_at hl 2 rfl) ?_
    refine fx_callSI (As := [.int p_k, .int (0 : Int32), .int p_n]) (rest := []) (wr := []) ⟨hx, hb, hml, hown, hts⟩ hG hGs (k_X6_within l G hG D cI cJ cZ cH p_k (0 : Int32) p_n  ) (va_cwS 3 hts gX6_chance_X6_within rfl rfl rfl (by decide +kernel) ⟨by decide, by decide⟩) hK hP hD hS hA [] [] rfl rfl (by decide) (by decide) (by decide) rfl rfl hl.1 (Nat.le_of_ble_eq_true rfl) dX6_chance_13 (Nat.zero_le _) (Nat.zero_le _) (fun H locs hP hD hS => ?_)
    have hP : va_P D vwCl [] H := hP
    have hD : va_D A [] := hD
    refine lv_if_eq (tgt := 26) hx hb dX6_chance_16 (by decide) (fun c16 => ?_) (fun c16 => ?_)
    · refine lv_ldc2 (v := (-1000000000000000002)) hx hb hown k136 dX6_chance_26 ?_
      exact hret _ _ _ _ _ _ dX6_chance_29 (by simp only [X6_chance, if_neg c7, if_pos c16]) rfl hP hD hS
    · refine lv_iload_n hx hb dX6_chance_19 rfl (lv_at hl 3 rfl) ?_
      refine fx_callSI (As := [.int p_part]) (rest := []) (wr := []) ⟨hx, hb, hml, hown, hts⟩ hG hGs (k_X6_isPart l G hG D cI cJ cZ cH p_part  ) (va_cwS 1 hts gX6_chance_X6_isPart rfl rfl rfl (by decide +kernel) ⟨by decide, by decide⟩) hK hP hD hS hA [] [] rfl rfl (by decide) (by decide) (by decide) rfl rfl hl.1 (Nat.le_of_ble_eq_true rfl) dX6_chance_20 (Nat.zero_le _) (Nat.zero_le _) (fun H locs hP hD hS => ?_)
      have hP : va_P D vwCl [] H := hP
      have hD : va_D A [] := hD
      refine lv_if_ne (tgt := 30) hx hb dX6_chance_23 (by decide) (fun c23 => ?_) (fun c23 => ?_)
      · refine lv_iload_n hx hb dX6_chance_30 rfl (lv_at hl 1 rfl) ?_
        refine lv_iload_n hx hb dX6_chance_31 rfl (lv_at hl 2 rfl) ?_
        refine fx_callSL (As := [.int p_k, .int p_n]) (rest := []) (wr := []) ⟨hx, hb, hml, hown, hts⟩ hG hGs (k_X6_waysOfAtLeast l G hG D cI cJ cZ cH p_k p_n  (fx_01 (fx_wi c7).1) ((fx_wi c7).2)) (va_cwS 2 hts gX6_chance_X6_waysOfAtLeast rfl rfl rfl (by decide +kernel) ⟨by decide, by decide⟩) hK hP hD hS hA [] [] rfl rfl (by decide) (by decide) (by decide) rfl rfl hl.1 (Nat.le_of_ble_eq_true rfl) dX6_chance_32 (Nat.zero_le _) (Nat.zero_le _) (fun H locs hP hD hS => ?_)
        have hP : va_P D vwCl [] H := hP
        have hD : va_D A [] := hD
        refine lv_lconst (v := 1) hx hb dX6_chance_35 (by decide) ?_
        refine lv_iload_n hx hb dX6_chance_36 rfl (lv_at hl 2 rfl) ?_
        refine lv_lshl hx hb dX6_chance_37 rfl ?_
        refine lv_iload_n hx hb dX6_chance_38 rfl (lv_at hl 3 rfl) ?_
        refine fx_callSL (As := [.long (X6_waysOfAtLeast p_k p_n), .long ((1 : Int64) <<< (p_n.toInt64 &&& 63)), .int p_part]) (rest := []) (wr := []) ⟨hx, hb, hml, hown, hts⟩ hG hGs (k_X6_partOf l G hG D cI cJ cZ cH (X6_waysOfAtLeast p_k p_n) ((1 : Int64) <<< (p_n.toInt64 &&& 63)) p_part  ) (va_cwS 3 hts gX6_chance_X6_partOf rfl rfl rfl (by decide +kernel) ⟨by decide, by decide⟩) hK hP hD hS hA [] [] rfl rfl (by decide) (by decide) (by decide) rfl rfl hl.1 (Nat.le_of_ble_eq_true rfl) dX6_chance_39 (Nat.zero_le _) (Nat.zero_le _) (fun H locs hP hD hS => ?_)
        have hP : va_P D vwCl [] H := hP
        have hD : va_D A [] := hD
        exact hret _ _ _ _ _ _ dX6_chance_42 (by simp only [X6_chance, if_neg c7, if_neg c16, if_neg c23]) rfl hP hD hS
      · refine lv_ldc2 (v := (-1000000000000000002)) hx hb hown k136 dX6_chance_26 ?_
        exact hret _ _ _ _ _ _ dX6_chance_29 (by simp only [X6_chance, if_neg c7, if_neg c16, if_pos c23]) rfl hP hD hS

def X6_pairs_L27 (p_share : Int32) (p_doubt : Int32) : Nat → Nat → (Int32)
  | 0, j27 => (0 : Int32)
  | n + 1, j27 => (if (40 : Int32) < nI j27 then ((-6) : Int32) else (if (p_doubt.toInt64 * ((1 : Int64) <<< ((nI j27).toInt64 &&& 63))) < ((X6_waysOfAtLeast (((nI j27 * p_share) + (9 : Int32)) / (10 : Int32)) (nI j27)) * (1000 : Int64)) then (X6_pairs_L27 p_share p_doubt n (j27 + 1)) else nI j27))
def X6_pairs (p_share : Int32) (p_doubt : Int32) : Int32 := (if (X6_within p_share (6 : Int32) (10 : Int32)) = 0 then ((-2) : Int32) else (if (X6_within p_doubt (1 : Int32) (200 : Int32)) = 0 then ((-2) : Int32) else (X6_pairs_L27 p_share p_doubt 41 1)))
abbrev rX6_pairs : Room := { frames := 1, cells := 0, slots := 0, locals := 26 }
set_option maxHeartbeats 8000000 in
set_option maxRecDepth 100000 in
theorem k_X6_pairs (l : Launch) (G : fxE) (hG : fxGood G) (D : va_G) (cI cJ cZ cH : ClassId) (a_this : Nat) (p_share : Int32) (p_doubt : Int32) : MetI l yX6_pairs wsX6_pairs rX6_pairs G D (tyL cI cJ cZ cH) [.ref a_this, .int p_share, .int p_doubt] [] (X6_pairs p_share p_doubt) [] := by
  refine fx_startI (cc := cX6_pairs) (n := 5) (rt := .int) (plainFor_of_name (by decide)) rfl (Nat.le_of_ble_eq_true rfl) rfl ?_
  intro p e s m args below meth c A Q ls hx hb hml hown hts hA hGs hK hP hD hS hl hret
  have hl : lv_has ls 5 [(0, .ref a_this), (1, .int p_share), (2, .int p_doubt)] := hl
  have k172 := hts (.constantLong RX6 172 1000) (by decide +kernel)
  refine lv_iload_n hx hb dX6_pairs_0 rfl (lv_at hl 1 rfl) ?_
  refine lv_bipush (v := 6) hx hb dX6_pairs_1 (by decide) ?_
  refine lv_bipush (v := 10) hx hb dX6_pairs_3 (by decide) ?_
  refine fx_callSI (As := [.int p_share, .int (6 : Int32), .int (10 : Int32)]) (rest := []) (wr := []) ⟨hx, hb, hml, hown, hts⟩ hG hGs (k_X6_within l G hG D cI cJ cZ cH p_share (6 : Int32) (10 : Int32)  ) (va_cwS 3 hts gX6_pairs_X6_within rfl rfl rfl (by decide +kernel) ⟨by decide, by decide⟩) hK hP hD hS hA [] [] rfl rfl (by decide) (by decide) (by decide) rfl rfl hl.1 (Nat.le_of_ble_eq_true rfl) dX6_pairs_5 (Nat.zero_le _) (Nat.zero_le _) (fun H locs hP hD hS => ?_)
  have hP : va_P D vwCl [] H := hP
  have hD : va_D A [] := hD
  refine lv_if_eq (tgt := 22) hx hb dX6_pairs_8 (by decide) (fun c8 => ?_) (fun c8 => ?_)
  · refine lv_bipush (v := (-2)) hx hb dX6_pairs_22 (by decide) ?_
    exact hret _ _ _ _ _ _ dX6_pairs_24 (by simp only [X6_pairs, if_pos c8]) rfl hP hD hS
  · refine lv_iload_n hx hb dX6_pairs_11 rfl (lv_at hl 2 rfl) ?_
    refine lv_iconst (v := 1) hx hb dX6_pairs_12 (by decide) ?_
    refine lv_sipush (v := 200) hx hb dX6_pairs_13 (by decide) ?_
    refine fx_callSI (As := [.int p_doubt, .int (1 : Int32), .int (200 : Int32)]) (rest := []) (wr := []) ⟨hx, hb, hml, hown, hts⟩ hG hGs (k_X6_within l G hG D cI cJ cZ cH p_doubt (1 : Int32) (200 : Int32)  ) (va_cwS 3 hts gX6_pairs_X6_within rfl rfl rfl (by decide +kernel) ⟨by decide, by decide⟩) hK hP hD hS hA [] [] rfl rfl (by decide) (by decide) (by decide) rfl rfl hl.1 (Nat.le_of_ble_eq_true rfl) dX6_pairs_16 (Nat.zero_le _) (Nat.zero_le _) (fun H locs hP hD hS => ?_)
    have hP : va_P D vwCl [] H := hP
    have hD : va_D A [] := hD
    refine lv_if_ne (tgt := 25) hx hb dX6_pairs_19 (by decide) (fun c19 => ?_) (fun c19 => ?_)
    · refine lv_iconst (v := 1) hx hb dX6_pairs_25 (by decide) ?_
      refine lv_istore_n (lv' := [(3, .int (1 : Int32)), (0, .ref a_this), (1, .int p_share), (2, .int p_doubt)]) hx hb dX6_pairs_26 rfl hl (by decide) rfl (fun ls hl => ?_)
      have hM0 : (X6_pairs p_share p_doubt) = (X6_pairs_L27 p_share p_doubt 41 1) := by simp only [X6_pairs, if_neg c8, if_neg c19]
      have L27 : ∀ (n : Nat) (j27 : Nat), 41 - j27 < n → 1 ≤ j27 → j27 ≤ 41 → X6_pairs_L27 p_share p_doubt n j27 = (X6_pairs_L27 p_share p_doubt 41 1) → ∀ (H : Heap) (locs : List Loc), va_P D vwCl [] H → va_D A [] → va_S A s.heap H locs → ∀ (ls : Array Slot), lv_has ls 5 [(1, .int p_share), (2, .int p_doubt), (3, .int (nI j27))] → W p l e rX6_pairs s m args below meth c H locs 0 0 Q (F0 m 27 ls []) := by
        intro n
        induction n with
        | zero => intro j27 h1; exact absurd h1 (Nat.not_lt_zero _)
        | succ n ih27 =>
          intro j27 hm27 hj27 hk27 hF27 H locs hP hD hS ls hl
          refine lv_iload_n hx hb dX6_pairs_27 rfl (lv_at hl 2 rfl) ?_
          refine lv_bipush (v := 40) hx hb dX6_pairs_28 (by decide) ?_
          refine lv_icmp_gt (tgt := 72) hx hb dX6_pairs_30 (by decide) (fun c30 => ?_) (fun c30 => ?_)
          · have n30 : 40 < j27 := (fx_ltN (x := (40 : Int32)) (y := (nI j27)) (a := 40) (b := j27) rfl rfl (by omega) (by omega)).mp c30
            refine lv_bipush (v := (-6)) hx hb dX6_pairs_72 (by decide) ?_
            have hr27 : (X6_pairs_L27 p_share p_doubt 41 1) = ((-6) : Int32) := hF27.symm.trans (by simp only [X6_pairs_L27, if_neg c8, if_neg c19, if_pos c30])
            exact hret _ _ _ _ _ _ dX6_pairs_74 (by rw [hM0, hr27]) rfl hP hD hS
          · have n30 : ¬ (40 < j27) := fun h9 => c30 ((fx_ltN (x := (40 : Int32)) (y := (nI j27)) (a := 40) (b := j27) rfl rfl (by omega) (by omega)).mpr h9)
            refine lv_iload_n hx hb dX6_pairs_33 rfl (lv_at hl 2 rfl) ?_
            refine lv_iload_n hx hb dX6_pairs_34 rfl (lv_at hl 0 rfl) ?_
            refine lv_imul hx hb dX6_pairs_35 ?_
            refine lv_bipush (v := 9) hx hb dX6_pairs_36 (by decide) ?_
            refine lv_iadd hx hb dX6_pairs_38 ?_
            refine lv_bipush (v := 10) hx hb dX6_pairs_39 (by decide) ?_
            refine lv_idiv hx hb dX6_pairs_41 (by decide) ?_
            refine lv_istore (lv' := [(4, .int (((nI j27 * p_share) + (9 : Int32)) / (10 : Int32))), (1, .int p_share), (2, .int p_doubt), (3, .int (nI j27))]) hx hb dX6_pairs_42 hl (by decide) rfl (fun ls hl => ?_)
            refine lv_iload hx hb dX6_pairs_44 (lv_at hl 0 rfl) ?_
            refine lv_iload_n hx hb dX6_pairs_46 rfl (lv_at hl 3 rfl) ?_
            refine fx_callSL (As := [.int (((nI j27 * p_share) + (9 : Int32)) / (10 : Int32)), .int (nI j27)]) (rest := []) (wr := []) ⟨hx, hb, hml, hown, hts⟩ hG hGs (k_X6_waysOfAtLeast l G hG D cI cJ cZ cH (((nI j27 * p_share) + (9 : Int32)) / (10 : Int32)) (nI j27)  (nI_pos' (by omega)) ((fx_leN (y := 40) (b := 40) rfl rfl (by omega) (by decide)).mpr (by omega))) (va_cwS 2 hts gX6_pairs_X6_waysOfAtLeast rfl rfl rfl (by decide +kernel) ⟨by decide, by decide⟩) hK hP hD hS hA [] [] rfl rfl (by decide) (by decide) (by decide) rfl rfl hl.1 (Nat.le_of_ble_eq_true rfl) dX6_pairs_47 (Nat.zero_le _) (Nat.zero_le _) (fun H locs hP hD hS => ?_)
            have hP : va_P D vwCl [] H := hP
            have hD : va_D A [] := hD
            refine lv_ldc2 (v := 1000) hx hb hown k172 dX6_pairs_50 ?_
            refine lv_lmul hx hb dX6_pairs_53 ?_
            refine lv_iload_n hx hb dX6_pairs_54 rfl (lv_at hl 2 rfl) ?_
            refine lv_i2l hx hb dX6_pairs_55 rfl ?_
            refine lv_lconst (v := 1) hx hb dX6_pairs_56 (by decide) ?_
            refine lv_iload_n hx hb dX6_pairs_57 rfl (lv_at hl 3 rfl) ?_
            refine lv_lshl hx hb dX6_pairs_58 rfl ?_
            refine lv_lmul hx hb dX6_pairs_59 ?_
            refine fx_lc_gt (tgt := 66) hx hb dX6_pairs_60 dX6_pairs_61 (by decide) (fun c60 => ?_) (fun c60 => ?_)
            · refine lv_iinc (v := nI (j27 + 1)) (lv' := [(3, .int (nI (j27 + 1))), (4, .int (((nI j27 * p_share) + (9 : Int32)) / (10 : Int32))), (1, .int p_share), (2, .int p_doubt)]) hx hb dX6_pairs_66 hl (k := 3) rfl (fx_inc _ 1) (by decide) rfl (fun ls hl => ?_)
              refine lv_goto (tgt := 27) hx hb dX6_pairs_69 (by decide) ?_
              exact ih27 (j27 + 1) (by omega) (by omega) (by omega) (by rw [← hF27]; simp only [X6_pairs_L27, if_neg c8, if_neg c19, if_neg c30, if_pos c60]) _ _ hP hD hS ls (lv_sub hl [2, 3, 0] rfl)
            · refine lv_iload_n hx hb dX6_pairs_64 rfl (lv_at hl 3 rfl) ?_
              have hr27 : (X6_pairs_L27 p_share p_doubt 41 1) = nI j27 := hF27.symm.trans (by simp only [X6_pairs_L27, if_neg c8, if_neg c19, if_neg c30, if_neg c60])
              exact hret _ _ _ _ _ _ dX6_pairs_65 (by rw [hM0, hr27]) rfl hP hD hS
      exact L27 41 1 (by omega) (by omega) (by omega) rfl _ _ hP hD hS ls (lv_sub hl [2, 3, 0] rfl)
    · refine lv_bipush (v := (-2)) hx hb dX6_pairs_22 (by decide) ?_
      exact hret _ _ _ _ _ _ dX6_pairs_24 (by simp only [X6_pairs, if_neg c8, if_pos c19]) rfl hP hD hS

def X6_tried (v_now_tries_number : Int32) (v_now_tries_kept : Nat → Int32) (v_now_tries_ended : Nat → Int32) (p_i : Int32) (p_what : Int32) : Int32 := (if (X6_within p_i (0 : Int32) (v_now_tries_number - (1 : Int32))) = 0 then ((-1) : Int32) else (if p_what = 0 then (v_now_tries_kept p_i.toNatClampNeg) else (if p_what = (1 : Int32) then (v_now_tries_ended p_i.toNatClampNeg) else ((-2) : Int32))))
abbrev rX6_tried : Room := { frames := 1, cells := 0, slots := 0, locals := 22 }
theorem n_X6_tried_X0 : ∀ w ∈ wsX00, w ∈ wsX6_tried := by decide +kernel
theorem n_X6_tried_X5 : ∀ w ∈ wsX50, w ∈ wsX6_tried := by decide +kernel
theorem n_X6_tried_X6 : ∀ w ∈ wsX60, w ∈ wsX6_tried := by decide +kernel
set_option maxHeartbeats 8000000 in
set_option maxRecDepth 100000 in
theorem k_X6_tried (l : Launch) (G : fxE) (hG : fxGood G) (D : va_G) (cI cJ cZ cH : ClassId) (a_now a_images a_taken a_run a_hotNeedles a_coldNeedles a_signs a_this a_now_night a_now_tries a_now_tries_kept a_now_tries_ended : Nat) (v_now_tries_number : Int32) (v_now_tries_kept : Nat → Int32) (v_now_tries_ended : Nat → Int32) (p_i : Int32) (p_what : Int32) (h0 : 0 ≤ v_now_tries_number) (h1 : v_now_tries_number ≤ 20) : MetI l yX6_tried wsX6_tried rX6_tried G D (tyL cI cJ cZ cH) [.ref a_this, .int p_i, .int p_what] [(a_this, .inr (6, [.ref a_now, .ref a_images, .ref a_taken, .ref a_run, .ref a_hotNeedles, .ref a_coldNeedles, .ref a_signs])), (a_now, .inr (0, [.ref a_now_night, .ref a_now_tries])), (a_now_tries, .inr (5, [.ref a_now_tries_kept, .ref a_now_tries_ended, .int v_now_tries_number])), (a_now_tries_kept, .inl (cI, 20, .inl v_now_tries_kept)), (a_now_tries_ended, .inl (cI, 20, .inl v_now_tries_ended))] (X6_tried v_now_tries_number v_now_tries_kept v_now_tries_ended p_i p_what) [(a_this, .inr (6, [.ref a_now, .ref a_images, .ref a_taken, .ref a_run, .ref a_hotNeedles, .ref a_coldNeedles, .ref a_signs])), (a_now, .inr (0, [.ref a_now_night, .ref a_now_tries])), (a_now_tries, .inr (5, [.ref a_now_tries_kept, .ref a_now_tries_ended, .int v_now_tries_number])), (a_now_tries_kept, .inl (cI, 20, .inl v_now_tries_kept)), (a_now_tries_ended, .inl (cI, 20, .inl v_now_tries_ended))] := by
  refine fx_startI (cc := cX6_tried) (n := 3) (rt := .int) (plainFor_of_name (by decide)) rfl (Nat.le_of_ble_eq_true rfl) rfl ?_
  intro p e s m args below meth c A Q ls hx hb hml hown hts hA hGs hK hP hD hS hl hret
  have hl : lv_has ls 3 [(0, .ref a_this), (1, .int p_i), (2, .int p_what)] := hl
  have iX0 := n_X6_tried_X0
  have iX5 := n_X6_tried_X5
  have iX6 := n_X6_tried_X6
  have f10 := hts (.fieldLink RX6 10 "FrozeFirst" "now" "LFrozeFirst$Held;") (by decide +kernel)
  have f183 := hts (.fieldLink RX6 183 "FrozeFirst$Held" "tries" "LFrozeFirst$Tries;") (by decide +kernel)
  have f196 := hts (.fieldLink RX6 196 "FrozeFirst$Tries" "number" "I") (by decide +kernel)
  have f200 := hts (.fieldLink RX6 200 "FrozeFirst$Tries" "ended" "[I") (by decide +kernel)
  have f197 := hts (.fieldLink RX6 197 "FrozeFirst$Tries" "kept" "[I") (by decide +kernel)
  refine lv_iload_n hx hb dX6_tried_0 rfl (lv_at hl 1 rfl) ?_
  refine lv_iconst (v := 0) hx hb dX6_tried_1 (by decide) ?_
  refine lv_aload_n hx hb dX6_tried_2 rfl (lv_at hl 0 rfl) ?_
  refine va_get (D := D) (ci := 6) (v := .ref a_now) (C := RX6) (T := TX6) (N := 7) hx hb hts iX6 hown hK hP 0 rfl rfl 0 (by decide) f10 (fun _ h9 => h9) rfl dX6_tried_3 ?_
  refine va_get (D := D) (ci := 0) (v := .ref a_now_tries) (C := RX0) (T := TX0) (N := 2) hx hb hts iX0 hown hK hP 1 rfl rfl 1 (by decide) f183 (fun _ h9 => h9) rfl dX6_tried_6 ?_
  refine va_get (D := D) (ci := 5) (v := .int v_now_tries_number) (C := RX5) (T := TX5) (N := 3) hx hb hts iX5 hown hK hP 2 rfl rfl 2 (by decide) f196 (fun _ h9 => h9) rfl dX6_tried_9 ?_
  refine lv_iconst (v := 1) hx hb dX6_tried_12 (by decide) ?_
  refine lv_isub hx hb dX6_tried_13 ?_
  refine fx_callSI (As := [.int p_i, .int (0 : Int32), .int (v_now_tries_number - (1 : Int32))]) (rest := []) (wr := [(a_this, .inr (6, [.ref a_now, .ref a_images, .ref a_taken, .ref a_run, .ref a_hotNeedles, .ref a_coldNeedles, .ref a_signs])), (a_now, .inr (0, [.ref a_now_night, .ref a_now_tries])), (a_now_tries, .inr (5, [.ref a_now_tries_kept, .ref a_now_tries_ended, .int v_now_tries_number])), (a_now_tries_kept, .inl (cI, 20, .inl v_now_tries_kept)), (a_now_tries_ended, .inl (cI, 20, .inl v_now_tries_ended))]) ⟨hx, hb, hml, hown, hts⟩ hG hGs (k_X6_within l G hG D cI cJ cZ cH p_i (0 : Int32) (v_now_tries_number - (1 : Int32))  ) (va_cwS 3 hts gX6_tried_X6_within rfl rfl rfl (by decide +kernel) ⟨by decide, by decide⟩) hK hP hD hS hA [] [0, 1, 2, 3, 4] rfl rfl (by decide) (by decide) (by decide) rfl rfl hl.1 (Nat.le_of_ble_eq_true rfl) dX6_tried_14 (Nat.zero_le _) (Nat.zero_le _) (fun H locs hP hD hS => ?_)
  have hP : va_P D vwCl [(a_this, .inr (6, [.ref a_now, .ref a_images, .ref a_taken, .ref a_run, .ref a_hotNeedles, .ref a_coldNeedles, .ref a_signs])), (a_now, .inr (0, [.ref a_now_night, .ref a_now_tries])), (a_now_tries, .inr (5, [.ref a_now_tries_kept, .ref a_now_tries_ended, .int v_now_tries_number])), (a_now_tries_kept, .inl (cI, 20, .inl v_now_tries_kept)), (a_now_tries_ended, .inl (cI, 20, .inl v_now_tries_ended))] H := hP
  have hD : va_D A [(a_this, .inr (6, [.ref a_now, .ref a_images, .ref a_taken, .ref a_run, .ref a_hotNeedles, .ref a_coldNeedles, .ref a_signs])), (a_now, .inr (0, [.ref a_now_night, .ref a_now_tries])), (a_now_tries, .inr (5, [.ref a_now_tries_kept, .ref a_now_tries_ended, .int v_now_tries_number])), (a_now_tries_kept, .inl (cI, 20, .inl v_now_tries_kept)), (a_now_tries_ended, .inl (cI, 20, .inl v_now_tries_ended))] := hD
  refine lv_if_ne (tgt := 22) hx hb dX6_tried_17 (by decide) (fun c17 => ?_) (fun c17 => ?_)
  · refine lv_iload_n hx hb dX6_tried_22 rfl (lv_at hl 2 rfl) ?_
    refine lv_if_ne (tgt := 39) hx hb dX6_tried_23 (by decide) (fun c23 => ?_) (fun c23 => ?_)
    · refine lv_iload_n hx hb dX6_tried_39 rfl (lv_at hl 2 rfl) ?_
      refine lv_iconst (v := 1) hx hb dX6_tried_40 (by decide) ?_
      refine lv_icmp_ne (tgt := 57) hx hb dX6_tried_41 (by decide) (fun c41 => ?_) (fun c41 => ?_)
      · refine lv_bipush (v := (-2)) hx hb dX6_tried_57 (by decide) ?_
        exact hret _ _ _ _ _ _ dX6_tried_59 (by simp only [X6_tried, if_neg c17, if_neg c23, if_neg c41]) rfl hP hD hS
      · refine lv_aload_n hx hb dX6_tried_44 rfl (lv_at hl 0 rfl) ?_
        refine va_get (D := D) (ci := 6) (v := .ref a_now) (C := RX6) (T := TX6) (N := 7) hx hb hts iX6 hown hK hP 0 rfl rfl 0 (by decide) f10 (fun _ h9 => h9) rfl dX6_tried_45 ?_
        refine va_get (D := D) (ci := 0) (v := .ref a_now_tries) (C := RX0) (T := TX0) (N := 2) hx hb hts iX0 hown hK hP 1 rfl rfl 1 (by decide) f183 (fun _ h9 => h9) rfl dX6_tried_48 ?_
        refine va_get (D := D) (ci := 5) (v := .ref a_now_tries_ended) (C := RX5) (T := TX5) (N := 3) hx hb hts iX5 hown hK hP 2 rfl rfl 1 (by decide) f200 (fun _ h9 => h9) rfl dX6_tried_51 ?_
        refine lv_iload_n hx hb dX6_tried_54 rfl (lv_at hl 1 rfl) ?_
        refine va_iald hx hb hK hP 4 0 rfl rfl (fx_trd h0 h1 c17) dX6_tried_55 ?_
        exact hret _ _ _ _ _ _ dX6_tried_56 (by simp only [X6_tried, if_neg c17, if_neg c23, if_pos c41]) rfl hP hD hS
    · refine lv_aload_n hx hb dX6_tried_26 rfl (lv_at hl 0 rfl) ?_
      refine va_get (D := D) (ci := 6) (v := .ref a_now) (C := RX6) (T := TX6) (N := 7) hx hb hts iX6 hown hK hP 0 rfl rfl 0 (by decide) f10 (fun _ h9 => h9) rfl dX6_tried_27 ?_
      refine va_get (D := D) (ci := 0) (v := .ref a_now_tries) (C := RX0) (T := TX0) (N := 2) hx hb hts iX0 hown hK hP 1 rfl rfl 1 (by decide) f183 (fun _ h9 => h9) rfl dX6_tried_30 ?_
      refine va_get (D := D) (ci := 5) (v := .ref a_now_tries_kept) (C := RX5) (T := TX5) (N := 3) hx hb hts iX5 hown hK hP 2 rfl rfl 0 (by decide) f197 (fun _ h9 => h9) rfl dX6_tried_33 ?_
      refine lv_iload_n hx hb dX6_tried_36 rfl (lv_at hl 1 rfl) ?_
      refine va_iald hx hb hK hP 3 0 rfl rfl (fx_trd h0 h1 c17) dX6_tried_37 ?_
      exact hret _ _ _ _ _ _ dX6_tried_38 (by simp only [X6_tried, if_neg c17, if_pos c23]) rfl hP hD hS
  · refine lv_iconst (v := (-1)) hx hb dX6_tried_20 (by decide) ?_
    exact hret _ _ _ _ _ _ dX6_tried_21 (by simp only [X6_tried, if_pos c17]) rfl hP hD hS

def X6_said_m43_s2 (p_what : Int32) : Int32 := (if p_what = (1 : Int32) then (1 : Int32) else (0 : Int32))
def X6_said (v_now_tries_number : Int32) (v_now_tries_kept : Nat → Int32) (v_now_tries_ended : Nat → Int32) (p_cause : Int32) (p_what : Int32) : Int32 := (if (X6_within p_cause (0 : Int32) (3 : Int32)) = 0 then ((-1) : Int32) else (if (X6_within p_what (0 : Int32) (1 : Int32)) = 0 then ((-2) : Int32) else (X5_pairsBy v_now_tries_number v_now_tries_kept v_now_tries_ended ((1 : Int32) <<< (p_cause &&& 31)) (X6_said_m43_s2 p_what))))
abbrev rX6_said : Room := { frames := 1, cells := 0, slots := 0, locals := 25 }
theorem n_X6_said_X0 : ∀ w ∈ wsX00, w ∈ wsX6_said := by decide +kernel
theorem n_X6_said_X6 : ∀ w ∈ wsX60, w ∈ wsX6_said := by decide +kernel
set_option maxHeartbeats 8000000 in
set_option maxRecDepth 100000 in
theorem k_X6_said (l : Launch) (G : fxE) (hG : fxGood G) (D : va_G) (cI cJ cZ cH : ClassId) (a_now a_images a_taken a_run a_hotNeedles a_coldNeedles a_signs a_this a_now_night a_now_tries a_now_tries_kept a_now_tries_ended : Nat) (v_now_tries_number : Int32) (v_now_tries_kept : Nat → Int32) (v_now_tries_ended : Nat → Int32) (p_cause : Int32) (p_what : Int32) (h0 : 0 ≤ v_now_tries_number) (h1 : v_now_tries_number ≤ 20) : MetI l yX6_said wsX6_said rX6_said G D (tyL cI cJ cZ cH) [.ref a_this, .int p_cause, .int p_what] [(a_this, .inr (6, [.ref a_now, .ref a_images, .ref a_taken, .ref a_run, .ref a_hotNeedles, .ref a_coldNeedles, .ref a_signs])), (a_now, .inr (0, [.ref a_now_night, .ref a_now_tries])), (a_now_tries, .inr (5, [.ref a_now_tries_kept, .ref a_now_tries_ended, .int v_now_tries_number])), (a_now_tries_kept, .inl (cI, 20, .inl v_now_tries_kept)), (a_now_tries_ended, .inl (cI, 20, .inl v_now_tries_ended))] (X6_said v_now_tries_number v_now_tries_kept v_now_tries_ended p_cause p_what) [(a_this, .inr (6, [.ref a_now, .ref a_images, .ref a_taken, .ref a_run, .ref a_hotNeedles, .ref a_coldNeedles, .ref a_signs])), (a_now, .inr (0, [.ref a_now_night, .ref a_now_tries])), (a_now_tries, .inr (5, [.ref a_now_tries_kept, .ref a_now_tries_ended, .int v_now_tries_number])), (a_now_tries_kept, .inl (cI, 20, .inl v_now_tries_kept)), (a_now_tries_ended, .inl (cI, 20, .inl v_now_tries_ended))] := by
  refine fx_startI (cc := cX6_said) (n := 3) (rt := .int) (plainFor_of_name (by decide)) rfl (Nat.le_of_ble_eq_true rfl) rfl ?_
  intro p e s m args below meth c A Q ls hx hb hml hown hts hA hGs hK hP hD hS hl hret
  have hl : lv_has ls 3 [(0, .ref a_this), (1, .int p_cause), (2, .int p_what)] := hl
  have iX0 := n_X6_said_X0
  have iX6 := n_X6_said_X6
  have f10 := hts (.fieldLink RX6 10 "FrozeFirst" "now" "LFrozeFirst$Held;") (by decide +kernel)
  have f183 := hts (.fieldLink RX6 183 "FrozeFirst$Held" "tries" "LFrozeFirst$Tries;") (by decide +kernel)
  refine lv_iload_n hx hb dX6_said_0 rfl (lv_at hl 1 rfl) ?_
  refine lv_iconst (v := 0) hx hb dX6_said_1 (by decide) ?_
  refine lv_iconst (v := 3) hx hb dX6_said_2 (by decide) ?_
  refine fx_callSI (As := [.int p_cause, .int (0 : Int32), .int (3 : Int32)]) (rest := []) (wr := [(a_this, .inr (6, [.ref a_now, .ref a_images, .ref a_taken, .ref a_run, .ref a_hotNeedles, .ref a_coldNeedles, .ref a_signs])), (a_now, .inr (0, [.ref a_now_night, .ref a_now_tries])), (a_now_tries, .inr (5, [.ref a_now_tries_kept, .ref a_now_tries_ended, .int v_now_tries_number])), (a_now_tries_kept, .inl (cI, 20, .inl v_now_tries_kept)), (a_now_tries_ended, .inl (cI, 20, .inl v_now_tries_ended))]) ⟨hx, hb, hml, hown, hts⟩ hG hGs (k_X6_within l G hG D cI cJ cZ cH p_cause (0 : Int32) (3 : Int32)  ) (va_cwS 3 hts gX6_said_X6_within rfl rfl rfl (by decide +kernel) ⟨by decide, by decide⟩) hK hP hD hS hA [] [0, 1, 2, 3, 4] rfl rfl (by decide) (by decide) (by decide) rfl rfl hl.1 (Nat.le_of_ble_eq_true rfl) dX6_said_3 (Nat.zero_le _) (Nat.zero_le _) (fun H locs hP hD hS => ?_)
  have hP : va_P D vwCl [(a_this, .inr (6, [.ref a_now, .ref a_images, .ref a_taken, .ref a_run, .ref a_hotNeedles, .ref a_coldNeedles, .ref a_signs])), (a_now, .inr (0, [.ref a_now_night, .ref a_now_tries])), (a_now_tries, .inr (5, [.ref a_now_tries_kept, .ref a_now_tries_ended, .int v_now_tries_number])), (a_now_tries_kept, .inl (cI, 20, .inl v_now_tries_kept)), (a_now_tries_ended, .inl (cI, 20, .inl v_now_tries_ended))] H := hP
  have hD : va_D A [(a_this, .inr (6, [.ref a_now, .ref a_images, .ref a_taken, .ref a_run, .ref a_hotNeedles, .ref a_coldNeedles, .ref a_signs])), (a_now, .inr (0, [.ref a_now_night, .ref a_now_tries])), (a_now_tries, .inr (5, [.ref a_now_tries_kept, .ref a_now_tries_ended, .int v_now_tries_number])), (a_now_tries_kept, .inl (cI, 20, .inl v_now_tries_kept)), (a_now_tries_ended, .inl (cI, 20, .inl v_now_tries_ended))] := hD
  refine lv_if_ne (tgt := 11) hx hb dX6_said_6 (by decide) (fun c6 => ?_) (fun c6 => ?_)
  · refine lv_iload_n hx hb dX6_said_11 rfl (lv_at hl 2 rfl) ?_
    refine lv_iconst (v := 0) hx hb dX6_said_12 (by decide) ?_
    refine lv_iconst (v := 1) hx hb dX6_said_13 (by decide) ?_
    refine fx_callSI (As := [.int p_what, .int (0 : Int32), .int (1 : Int32)]) (rest := []) (wr := [(a_this, .inr (6, [.ref a_now, .ref a_images, .ref a_taken, .ref a_run, .ref a_hotNeedles, .ref a_coldNeedles, .ref a_signs])), (a_now, .inr (0, [.ref a_now_night, .ref a_now_tries])), (a_now_tries, .inr (5, [.ref a_now_tries_kept, .ref a_now_tries_ended, .int v_now_tries_number])), (a_now_tries_kept, .inl (cI, 20, .inl v_now_tries_kept)), (a_now_tries_ended, .inl (cI, 20, .inl v_now_tries_ended))]) ⟨hx, hb, hml, hown, hts⟩ hG hGs (k_X6_within l G hG D cI cJ cZ cH p_what (0 : Int32) (1 : Int32)  ) (va_cwS 3 hts gX6_said_X6_within rfl rfl rfl (by decide +kernel) ⟨by decide, by decide⟩) hK hP hD hS hA [] [0, 1, 2, 3, 4] rfl rfl (by decide) (by decide) (by decide) rfl rfl hl.1 (Nat.le_of_ble_eq_true rfl) dX6_said_14 (Nat.zero_le _) (Nat.zero_le _) (fun H locs hP hD hS => ?_)
    have hP : va_P D vwCl [(a_this, .inr (6, [.ref a_now, .ref a_images, .ref a_taken, .ref a_run, .ref a_hotNeedles, .ref a_coldNeedles, .ref a_signs])), (a_now, .inr (0, [.ref a_now_night, .ref a_now_tries])), (a_now_tries, .inr (5, [.ref a_now_tries_kept, .ref a_now_tries_ended, .int v_now_tries_number])), (a_now_tries_kept, .inl (cI, 20, .inl v_now_tries_kept)), (a_now_tries_ended, .inl (cI, 20, .inl v_now_tries_ended))] H := hP
    have hD : va_D A [(a_this, .inr (6, [.ref a_now, .ref a_images, .ref a_taken, .ref a_run, .ref a_hotNeedles, .ref a_coldNeedles, .ref a_signs])), (a_now, .inr (0, [.ref a_now_night, .ref a_now_tries])), (a_now_tries, .inr (5, [.ref a_now_tries_kept, .ref a_now_tries_ended, .int v_now_tries_number])), (a_now_tries_kept, .inl (cI, 20, .inl v_now_tries_kept)), (a_now_tries_ended, .inl (cI, 20, .inl v_now_tries_ended))] := hD
    refine lv_if_ne (tgt := 23) hx hb dX6_said_17 (by decide) (fun c17 => ?_) (fun c17 => ?_)
    · refine lv_aload_n hx hb dX6_said_23 rfl (lv_at hl 0 rfl) ?_
      refine va_get (D := D) (ci := 6) (v := .ref a_now) (C := RX6) (T := TX6) (N := 7) hx hb hts iX6 hown hK hP 0 rfl rfl 0 (by decide) f10 (fun _ h9 => h9) rfl dX6_said_24 ?_
      refine va_get (D := D) (ci := 0) (v := .ref a_now_tries) (C := RX0) (T := TX0) (N := 2) hx hb hts iX0 hown hK hP 1 rfl rfl 1 (by decide) f183 (fun _ h9 => h9) rfl dX6_said_27 ?_
      refine lv_iconst (v := 1) hx hb dX6_said_30 (by decide) ?_
      refine lv_iload_n hx hb dX6_said_31 rfl (lv_at hl 1 rfl) ?_
      refine lv_ishl hx hb dX6_said_32 ?_
      refine lv_iload_n hx hb dX6_said_33 rfl (lv_at hl 2 rfl) ?_
      refine lv_iconst (v := 1) hx hb dX6_said_34 (by decide) ?_
      have C43 : ∀ (x43_s2 : Int32), (X6_said_m43_s2 p_what) = x43_s2 → ∀ (H : Heap) (locs : List Loc), va_P D vwCl [(a_this, .inr (6, [.ref a_now, .ref a_images, .ref a_taken, .ref a_run, .ref a_hotNeedles, .ref a_coldNeedles, .ref a_signs])), (a_now, .inr (0, [.ref a_now_night, .ref a_now_tries])), (a_now_tries, .inr (5, [.ref a_now_tries_kept, .ref a_now_tries_ended, .int v_now_tries_number])), (a_now_tries_kept, .inl (cI, 20, .inl v_now_tries_kept)), (a_now_tries_ended, .inl (cI, 20, .inl v_now_tries_ended))] H → va_D A [(a_this, .inr (6, [.ref a_now, .ref a_images, .ref a_taken, .ref a_run, .ref a_hotNeedles, .ref a_coldNeedles, .ref a_signs])), (a_now, .inr (0, [.ref a_now_night, .ref a_now_tries])), (a_now_tries, .inr (5, [.ref a_now_tries_kept, .ref a_now_tries_ended, .int v_now_tries_number])), (a_now_tries_kept, .inl (cI, 20, .inl v_now_tries_kept)), (a_now_tries_ended, .inl (cI, 20, .inl v_now_tries_ended))] → va_S A s.heap H locs → ∀ (ls : Array Slot), lv_has ls 3 [] → W p l e rX6_said s m args below meth c H locs 0 0 Q (F0 m 43 ls [.int x43_s2, .int ((1 : Int32) <<< (p_cause &&& 31)), .ref a_now_tries]) := by
        intro x43_s2 hx43_s2 H locs hP hD hS ls hl
        subst hx43_s2
        refine fx_callVI (As := [.int ((1 : Int32) <<< (p_cause &&& 31)), .int (X6_said_m43_s2 p_what)]) (rest := []) (wr := [(a_this, .inr (6, [.ref a_now, .ref a_images, .ref a_taken, .ref a_run, .ref a_hotNeedles, .ref a_coldNeedles, .ref a_signs])), (a_now, .inr (0, [.ref a_now_night, .ref a_now_tries]))]) ⟨hx, hb, hml, hown, hts⟩ hG hGs (k_X5_pairsBy l G hG D cI cJ cZ cH a_now_tries_kept a_now_tries_ended a_now_tries v_now_tries_number v_now_tries_kept v_now_tries_ended ((1 : Int32) <<< (p_cause &&& 31)) (X6_said_m43_s2 p_what)  (by assumption) (by assumption)) (cwV 2 hts gX6_said_X5_pairsBy rfl rfl rfl (by decide +kernel) ⟨by decide, by decide⟩) hK hP hD hS hA [2, 3, 4] [0, 1] rfl rfl (by decide) (by decide) (by decide) 2 rfl rfl rfl rfl hl.1 (Nat.le_of_ble_eq_true rfl) dX6_said_43 (Nat.zero_le _) (Nat.zero_le _) (fun H locs hP hD hS => ?_)
        have hP : va_P D vwCl [(a_this, .inr (6, [.ref a_now, .ref a_images, .ref a_taken, .ref a_run, .ref a_hotNeedles, .ref a_coldNeedles, .ref a_signs])), (a_now, .inr (0, [.ref a_now_night, .ref a_now_tries])), (a_now_tries, .inr (5, [.ref a_now_tries_kept, .ref a_now_tries_ended, .int v_now_tries_number])), (a_now_tries_kept, .inl (cI, 20, .inl v_now_tries_kept)), (a_now_tries_ended, .inl (cI, 20, .inl v_now_tries_ended))] H := hP
        have hD : va_D A [(a_this, .inr (6, [.ref a_now, .ref a_images, .ref a_taken, .ref a_run, .ref a_hotNeedles, .ref a_coldNeedles, .ref a_signs])), (a_now, .inr (0, [.ref a_now_night, .ref a_now_tries])), (a_now_tries, .inr (5, [.ref a_now_tries_kept, .ref a_now_tries_ended, .int v_now_tries_number])), (a_now_tries_kept, .inl (cI, 20, .inl v_now_tries_kept)), (a_now_tries_ended, .inl (cI, 20, .inl v_now_tries_ended))] := hD
        exact hret _ _ _ _ _ _ dX6_said_46 (by simp only [X6_said, if_neg c6, if_neg c17]) rfl hP hD hS
      refine lv_icmp_ne (tgt := 42) hx hb dX6_said_35 (by decide) (fun c35 => ?_) (fun c35 => ?_)
      · refine lv_iconst (v := 0) hx hb dX6_said_42 (by decide) ?_
        exact C43 (0 : Int32) (by simp only [X6_said_m43_s2, if_neg c6, if_neg c17, if_neg c35]) _ _ hP hD hS ls (lv_sub hl [] rfl)
      · refine lv_iconst (v := 1) hx hb dX6_said_38 (by decide) ?_
        refine lv_goto (tgt := 43) hx hb dX6_said_39 (by decide) ?_
        exact C43 (1 : Int32) (by simp only [X6_said_m43_s2, if_neg c6, if_neg c17, if_pos c35]) _ _ hP hD hS ls (lv_sub hl [] rfl)
    · refine lv_bipush (v := (-2)) hx hb dX6_said_20 (by decide) ?_
      exact hret _ _ _ _ _ _ dX6_said_22 (by simp only [X6_said, if_neg c6, if_pos c17]) rfl hP hD hS
  · refine lv_iconst (v := (-1)) hx hb dX6_said_9 (by decide) ?_
    exact hret _ _ _ _ _ _ dX6_said_10 (by simp only [X6_said, if_pos c6]) rfl hP hD hS

def X6_ask_L7 (v_now_tries_number : Int32) (v_now_tries_kept : Nat → Int32) : Nat → Int32 × Int32
  | 0 => (((-6) : Int32), ((-1) : Int32))
  | j7 + 1 => (if (X5_has v_now_tries_number v_now_tries_kept (nI j7)) = 0 then (if (X5_neighbours v_now_tries_number v_now_tries_kept (nI j7)) ≤ (X6_ask_L7 v_now_tries_number v_now_tries_kept j7).2 then ((X6_ask_L7 v_now_tries_number v_now_tries_kept j7).1, (X6_ask_L7 v_now_tries_number v_now_tries_kept j7).2) else (nI j7, (X5_neighbours v_now_tries_number v_now_tries_kept (nI j7)))) else ((X6_ask_L7 v_now_tries_number v_now_tries_kept j7).1, (X6_ask_L7 v_now_tries_number v_now_tries_kept j7).2))
def X6_ask (v_now_tries_number : Int32) (v_now_tries_kept : Nat → Int32) : Int32 := ((X6_ask_L7 v_now_tries_number v_now_tries_kept 16).1)
abbrev rX6_ask : Room := { frames := 2, cells := 0, slots := 0, locals := 43 }
theorem n_X6_ask_X0 : ∀ w ∈ wsX00, w ∈ wsX6_ask := by decide +kernel
theorem n_X6_ask_X6 : ∀ w ∈ wsX60, w ∈ wsX6_ask := by decide +kernel
set_option maxHeartbeats 8000000 in
set_option maxRecDepth 100000 in
theorem k_X6_ask (l : Launch) (G : fxE) (hG : fxGood G) (D : va_G) (cI cJ cZ cH : ClassId) (a_now a_images a_taken a_run a_hotNeedles a_coldNeedles a_signs a_this a_now_night a_now_tries a_now_tries_kept a_now_tries_ended : Nat) (v_now_tries_number : Int32) (v_now_tries_kept : Nat → Int32) (v_now_tries_ended : Nat → Int32) (h0 : 0 ≤ v_now_tries_number) (h1 : v_now_tries_number ≤ 20) : MetI l yX6_ask wsX6_ask rX6_ask G D (tyL cI cJ cZ cH) [.ref a_this] [(a_this, .inr (6, [.ref a_now, .ref a_images, .ref a_taken, .ref a_run, .ref a_hotNeedles, .ref a_coldNeedles, .ref a_signs])), (a_now, .inr (0, [.ref a_now_night, .ref a_now_tries])), (a_now_tries, .inr (5, [.ref a_now_tries_kept, .ref a_now_tries_ended, .int v_now_tries_number])), (a_now_tries_kept, .inl (cI, 20, .inl v_now_tries_kept)), (a_now_tries_ended, .inl (cI, 20, .inl v_now_tries_ended))] (X6_ask v_now_tries_number v_now_tries_kept) [(a_this, .inr (6, [.ref a_now, .ref a_images, .ref a_taken, .ref a_run, .ref a_hotNeedles, .ref a_coldNeedles, .ref a_signs])), (a_now, .inr (0, [.ref a_now_night, .ref a_now_tries])), (a_now_tries, .inr (5, [.ref a_now_tries_kept, .ref a_now_tries_ended, .int v_now_tries_number])), (a_now_tries_kept, .inl (cI, 20, .inl v_now_tries_kept)), (a_now_tries_ended, .inl (cI, 20, .inl v_now_tries_ended))] := by
  refine fx_startI (cc := cX6_ask) (n := 5) (rt := .int) (plainFor_of_name (by decide)) rfl (Nat.le_of_ble_eq_true rfl) rfl ?_
  intro p e s m args below meth c A Q ls hx hb hml hown hts hA hGs hK hP hD hS hl hret
  have hl : lv_has ls 5 [(0, .ref a_this)] := hl
  have iX0 := n_X6_ask_X0
  have iX6 := n_X6_ask_X6
  have f10 := hts (.fieldLink RX6 10 "FrozeFirst" "now" "LFrozeFirst$Held;") (by decide +kernel)
  have f183 := hts (.fieldLink RX6 183 "FrozeFirst$Held" "tries" "LFrozeFirst$Tries;") (by decide +kernel)
  refine lv_bipush (v := (-6)) hx hb dX6_ask_0 (by decide) ?_
  refine lv_istore_n (lv' := [(1, .int ((-6) : Int32)), (0, .ref a_this)]) hx hb dX6_ask_2 rfl hl (by decide) rfl (fun ls hl => ?_)
  refine lv_iconst (v := (-1)) hx hb dX6_ask_3 (by decide) ?_
  refine lv_istore_n (lv' := [(2, .int ((-1) : Int32)), (1, .int ((-6) : Int32)), (0, .ref a_this)]) hx hb dX6_ask_4 rfl hl (by decide) rfl (fun ls hl => ?_)
  refine lv_iconst (v := 0) hx hb dX6_ask_5 (by decide) ?_
  refine lv_istore_n (lv' := [(3, .int (0 : Int32)), (2, .int ((-1) : Int32)), (1, .int ((-6) : Int32)), (0, .ref a_this)]) hx hb dX6_ask_6 rfl hl (by decide) rfl (fun ls hl => ?_)
  have L7 : ∀ (n j7 : Nat) (x7_l1 : Int32) (x7_l2 : Int32), j7 ≤ 16 → 16 + 1 ≤ j7 + n → X6_ask_L7 v_now_tries_number v_now_tries_kept j7 = (x7_l1, x7_l2) → ∀ (H : Heap) (locs : List Loc), va_P D vwCl [(a_this, .inr (6, [.ref a_now, .ref a_images, .ref a_taken, .ref a_run, .ref a_hotNeedles, .ref a_coldNeedles, .ref a_signs])), (a_now, .inr (0, [.ref a_now_night, .ref a_now_tries])), (a_now_tries, .inr (5, [.ref a_now_tries_kept, .ref a_now_tries_ended, .int v_now_tries_number])), (a_now_tries_kept, .inl (cI, 20, .inl v_now_tries_kept)), (a_now_tries_ended, .inl (cI, 20, .inl v_now_tries_ended))] H → va_D A [(a_this, .inr (6, [.ref a_now, .ref a_images, .ref a_taken, .ref a_run, .ref a_hotNeedles, .ref a_coldNeedles, .ref a_signs])), (a_now, .inr (0, [.ref a_now_night, .ref a_now_tries])), (a_now_tries, .inr (5, [.ref a_now_tries_kept, .ref a_now_tries_ended, .int v_now_tries_number])), (a_now_tries_kept, .inl (cI, 20, .inl v_now_tries_kept)), (a_now_tries_ended, .inl (cI, 20, .inl v_now_tries_ended))] → va_S A s.heap H locs → ∀ (ls : Array Slot), lv_has ls 5 [(0, .ref a_this), (1, .int x7_l1), (2, .int x7_l2), (3, .int (nI j7))] → W p l e rX6_ask s m args below meth c H locs 0 0 Q (F0 m 7 ls []) := by
    intro n
    induction n with
    | zero => intro j7 x7_l1 x7_l2 h1 h2; exact absurd h2 (by omega)
    | succ n ih7 =>
      intro j7 x7_l1 x7_l2 hj7 hn7  hx7 H locs hP hD hS ls hl
      refine lv_iload_n hx hb dX6_ask_7 rfl (lv_at hl 3 rfl) ?_
      refine lv_bipush (v := 16) hx hb dX6_ask_8 (by decide) ?_
      refine lv_icmp_ge (tgt := 57) hx hb dX6_ask_10 (by decide) (fun c10 => ?_) (fun c10 => ?_)
      · have n10 : 16 ≤ j7 := (fx_leN (x := (16 : Int32)) (y := (nI j7)) (a := 16) (b := j7) rfl rfl (by omega) (by omega)).mp c10
        have e7 : 16 = j7 := by omega
        subst e7
        have q7_0 : x7_l1 = (X6_ask_L7 v_now_tries_number v_now_tries_kept 16).1 := by rw [hx7]
        have q7_1 : x7_l2 = (X6_ask_L7 v_now_tries_number v_now_tries_kept 16).2 := by rw [hx7]
        subst q7_0
        subst q7_1
        have hl := lv_sub (l' := [(1, .int ((X6_ask_L7 v_now_tries_number v_now_tries_kept 16).1))]) hl [1] rfl
        have hP : va_P D vwCl [(a_this, .inr (6, [.ref a_now, .ref a_images, .ref a_taken, .ref a_run, .ref a_hotNeedles, .ref a_coldNeedles, .ref a_signs])), (a_now, .inr (0, [.ref a_now_night, .ref a_now_tries])), (a_now_tries, .inr (5, [.ref a_now_tries_kept, .ref a_now_tries_ended, .int v_now_tries_number])), (a_now_tries_kept, .inl (cI, 20, .inl v_now_tries_kept)), (a_now_tries_ended, .inl (cI, 20, .inl v_now_tries_ended))] H := hP
        have hD : va_D A [(a_this, .inr (6, [.ref a_now, .ref a_images, .ref a_taken, .ref a_run, .ref a_hotNeedles, .ref a_coldNeedles, .ref a_signs])), (a_now, .inr (0, [.ref a_now_night, .ref a_now_tries])), (a_now_tries, .inr (5, [.ref a_now_tries_kept, .ref a_now_tries_ended, .int v_now_tries_number])), (a_now_tries_kept, .inl (cI, 20, .inl v_now_tries_kept)), (a_now_tries_ended, .inl (cI, 20, .inl v_now_tries_ended))] := hD
        refine lv_iload_n hx hb dX6_ask_57 rfl (lv_at hl 0 rfl) ?_
        exact hret _ _ _ _ _ _ dX6_ask_58 (by simp only [X6_ask, if_pos c10]) rfl hP hD hS
      · have n10 : ¬ (16 ≤ j7) := fun h9 => c10 ((fx_leN (x := (16 : Int32)) (y := (nI j7)) (a := 16) (b := j7) rfl rfl (by omega) (by omega)).mpr h9)
        refine lv_aload_n hx hb dX6_ask_13 rfl (lv_at hl 0 rfl) ?_
        refine va_get (D := D) (ci := 6) (v := .ref a_now) (C := RX6) (T := TX6) (N := 7) hx hb hts iX6 hown hK hP 0 rfl rfl 0 (by decide) f10 (fun _ h9 => h9) rfl dX6_ask_14 ?_
        refine va_get (D := D) (ci := 0) (v := .ref a_now_tries) (C := RX0) (T := TX0) (N := 2) hx hb hts iX0 hown hK hP 1 rfl rfl 1 (by decide) f183 (fun _ h9 => h9) rfl dX6_ask_17 ?_
        refine lv_iload_n hx hb dX6_ask_20 rfl (lv_at hl 3 rfl) ?_
        refine fx_callVI (As := [.int (nI j7)]) (rest := []) (wr := [(a_this, .inr (6, [.ref a_now, .ref a_images, .ref a_taken, .ref a_run, .ref a_hotNeedles, .ref a_coldNeedles, .ref a_signs])), (a_now, .inr (0, [.ref a_now_night, .ref a_now_tries]))]) ⟨hx, hb, hml, hown, hts⟩ hG hGs (k_X5_has l G hG D cI cJ cZ cH a_now_tries_kept a_now_tries_ended a_now_tries v_now_tries_number v_now_tries_kept v_now_tries_ended (nI j7)  (by assumption) (by assumption)) (cwV 1 hts gX6_ask_X5_has rfl rfl rfl (by decide +kernel) ⟨by decide, by decide⟩) hK hP hD hS hA [2, 3, 4] [0, 1] rfl rfl (by decide) (by decide) (by decide) 2 rfl rfl rfl rfl hl.1 (Nat.le_of_ble_eq_true rfl) dX6_ask_21 (Nat.zero_le _) (Nat.zero_le _) (fun H locs hP hD hS => ?_)
        have hP : va_P D vwCl [(a_this, .inr (6, [.ref a_now, .ref a_images, .ref a_taken, .ref a_run, .ref a_hotNeedles, .ref a_coldNeedles, .ref a_signs])), (a_now, .inr (0, [.ref a_now_night, .ref a_now_tries])), (a_now_tries, .inr (5, [.ref a_now_tries_kept, .ref a_now_tries_ended, .int v_now_tries_number])), (a_now_tries_kept, .inl (cI, 20, .inl v_now_tries_kept)), (a_now_tries_ended, .inl (cI, 20, .inl v_now_tries_ended))] H := hP
        have hD : va_D A [(a_this, .inr (6, [.ref a_now, .ref a_images, .ref a_taken, .ref a_run, .ref a_hotNeedles, .ref a_coldNeedles, .ref a_signs])), (a_now, .inr (0, [.ref a_now_night, .ref a_now_tries])), (a_now_tries, .inr (5, [.ref a_now_tries_kept, .ref a_now_tries_ended, .int v_now_tries_number])), (a_now_tries_kept, .inl (cI, 20, .inl v_now_tries_kept)), (a_now_tries_ended, .inl (cI, 20, .inl v_now_tries_ended))] := hD
        refine lv_if_ne (tgt := 51) hx hb dX6_ask_24 (by decide) (fun c24 => ?_) (fun c24 => ?_)
        · refine lv_iinc (v := nI (j7 + 1)) (lv' := [(3, .int (nI (j7 + 1))), (0, .ref a_this), (1, .int x7_l1), (2, .int x7_l2)]) hx hb dX6_ask_51 hl (k := 3) rfl (fx_inc _ 1) (by decide) rfl (fun ls hl => ?_)
          refine lv_goto (tgt := 7) hx hb dX6_ask_54 (by decide) ?_
          exact ih7 (j7 + 1) x7_l1 x7_l2 (by omega) (by omega)  (by simp only [X6_ask_L7, hx7, if_neg c10, if_neg c24]) _ _ hP hD hS ls (lv_sub hl [1, 2, 3, 0] rfl)
        · refine lv_aload_n hx hb dX6_ask_27 rfl (lv_at hl 0 rfl) ?_
          refine va_get (D := D) (ci := 6) (v := .ref a_now) (C := RX6) (T := TX6) (N := 7) hx hb hts iX6 hown hK hP 0 rfl rfl 0 (by decide) f10 (fun _ h9 => h9) rfl dX6_ask_28 ?_
          refine va_get (D := D) (ci := 0) (v := .ref a_now_tries) (C := RX0) (T := TX0) (N := 2) hx hb hts iX0 hown hK hP 1 rfl rfl 1 (by decide) f183 (fun _ h9 => h9) rfl dX6_ask_31 ?_
          refine lv_iload_n hx hb dX6_ask_34 rfl (lv_at hl 3 rfl) ?_
          refine fx_callVI (As := [.int (nI j7)]) (rest := []) (wr := [(a_this, .inr (6, [.ref a_now, .ref a_images, .ref a_taken, .ref a_run, .ref a_hotNeedles, .ref a_coldNeedles, .ref a_signs])), (a_now, .inr (0, [.ref a_now_night, .ref a_now_tries]))]) ⟨hx, hb, hml, hown, hts⟩ hG hGs (k_X5_neighbours l G hG D cI cJ cZ cH a_now_tries_kept a_now_tries_ended a_now_tries v_now_tries_number v_now_tries_kept v_now_tries_ended (nI j7)  (by assumption) (by assumption)) (cwV 1 hts gX6_ask_X5_neighbours rfl rfl rfl (by decide +kernel) ⟨by decide, by decide⟩) hK hP hD hS hA [2, 3, 4] [0, 1] rfl rfl (by decide) (by decide) (by decide) 2 rfl rfl rfl rfl hl.1 (Nat.le_of_ble_eq_true rfl) dX6_ask_35 (Nat.zero_le _) (Nat.zero_le _) (fun H locs hP hD hS => ?_)
          have hP : va_P D vwCl [(a_this, .inr (6, [.ref a_now, .ref a_images, .ref a_taken, .ref a_run, .ref a_hotNeedles, .ref a_coldNeedles, .ref a_signs])), (a_now, .inr (0, [.ref a_now_night, .ref a_now_tries])), (a_now_tries, .inr (5, [.ref a_now_tries_kept, .ref a_now_tries_ended, .int v_now_tries_number])), (a_now_tries_kept, .inl (cI, 20, .inl v_now_tries_kept)), (a_now_tries_ended, .inl (cI, 20, .inl v_now_tries_ended))] H := hP
          have hD : va_D A [(a_this, .inr (6, [.ref a_now, .ref a_images, .ref a_taken, .ref a_run, .ref a_hotNeedles, .ref a_coldNeedles, .ref a_signs])), (a_now, .inr (0, [.ref a_now_night, .ref a_now_tries])), (a_now_tries, .inr (5, [.ref a_now_tries_kept, .ref a_now_tries_ended, .int v_now_tries_number])), (a_now_tries_kept, .inl (cI, 20, .inl v_now_tries_kept)), (a_now_tries_ended, .inl (cI, 20, .inl v_now_tries_ended))] := hD
          refine lv_istore (lv' := [(4, .int (X5_neighbours v_now_tries_number v_now_tries_kept (nI j7))), (0, .ref a_this), (1, .int x7_l1), (2, .int x7_l2), (3, .int (nI j7))]) hx hb dX6_ask_38 hl (by decide) rfl (fun ls hl => ?_)
          refine lv_iload hx hb dX6_ask_40 (lv_at hl 0 rfl) ?_
          refine lv_iload_n hx hb dX6_ask_42 rfl (lv_at hl 3 rfl) ?_
          refine lv_icmp_le (tgt := 51) hx hb dX6_ask_43 (by decide) (fun c43 => ?_) (fun c43 => ?_)
          · refine lv_iinc (v := nI (j7 + 1)) (lv' := [(3, .int (nI (j7 + 1))), (4, .int (X5_neighbours v_now_tries_number v_now_tries_kept (nI j7))), (0, .ref a_this), (1, .int x7_l1), (2, .int x7_l2)]) hx hb dX6_ask_51 hl (k := 4) rfl (fx_inc _ 1) (by decide) rfl (fun ls hl => ?_)
            refine lv_goto (tgt := 7) hx hb dX6_ask_54 (by decide) ?_
            exact ih7 (j7 + 1) x7_l1 x7_l2 (by omega) (by omega)  (by simp only [X6_ask_L7, hx7, if_neg c10, if_pos c24, if_pos c43]) _ _ hP hD hS ls (lv_sub hl [2, 3, 4, 0] rfl)
          · refine lv_iload hx hb dX6_ask_46 (lv_at hl 0 rfl) ?_
            refine lv_istore_n (lv' := [(2, .int (X5_neighbours v_now_tries_number v_now_tries_kept (nI j7))), (4, .int (X5_neighbours v_now_tries_number v_now_tries_kept (nI j7))), (0, .ref a_this), (1, .int x7_l1), (3, .int (nI j7))]) hx hb dX6_ask_48 rfl hl (by decide) rfl (fun ls hl => ?_)
            refine lv_iload_n hx hb dX6_ask_49 rfl (lv_at hl 4 rfl) ?_
            refine lv_istore_n (lv' := [(1, .int (nI j7)), (2, .int (X5_neighbours v_now_tries_number v_now_tries_kept (nI j7))), (4, .int (X5_neighbours v_now_tries_number v_now_tries_kept (nI j7))), (0, .ref a_this), (3, .int (nI j7))]) hx hb dX6_ask_50 rfl hl (by decide) rfl (fun ls hl => ?_)
            refine lv_iinc (v := nI (j7 + 1)) (lv' := [(3, .int (nI (j7 + 1))), (1, .int (nI j7)), (2, .int (X5_neighbours v_now_tries_number v_now_tries_kept (nI j7))), (4, .int (X5_neighbours v_now_tries_number v_now_tries_kept (nI j7))), (0, .ref a_this)]) hx hb dX6_ask_51 hl (k := 4) rfl (fx_inc _ 1) (by decide) rfl (fun ls hl => ?_)
            refine lv_goto (tgt := 7) hx hb dX6_ask_54 (by decide) ?_
            exact ih7 (j7 + 1) (nI j7) (X5_neighbours v_now_tries_number v_now_tries_kept (nI j7)) (by omega) (by omega)  (by simp only [X6_ask_L7, hx7, if_neg c10, if_pos c24, if_neg c43]) _ _ hP hD hS ls (lv_sub hl [4, 1, 2, 0] rfl)
  exact L7 (16 + 1) 0 ((-6) : Int32) ((-1) : Int32) (by omega) (by omega)  rfl _ _ hP hD hS ls (lv_sub hl [3, 2, 1, 0] rfl)

def X6_told (v_now_night_start : Nat → Int32) (v_now_night_mass : Nat → Int32) (v_now_night_alike : Nat → Int32) (v_now_tries_number : Int32) (v_signs_number : Int32) (p_what : Int32) : Int32 := (if p_what = 0 then v_signs_number else (if p_what = (1 : Int32) then v_now_tries_number else (if (X6_within p_what (2 : Int32) (3 : Int32)) = 0 then (if (X6_within p_what (4 : Int32) (5 : Int32)) = 0 then (if (X6_within p_what (10 : Int32) (20 : Int32)) = 0 then ((-2) : Int32) else (v_now_night_alike (p_what - (10 : Int32)).toNatClampNeg)) else (v_now_night_mass (p_what - (4 : Int32)).toNatClampNeg)) else (v_now_night_start (p_what - (2 : Int32)).toNatClampNeg))))
abbrev rX6_told : Room := { frames := 1, cells := 0, slots := 0, locals := 22 }
theorem n_X6_told_X0 : ∀ w ∈ wsX00, w ∈ wsX6_told := by decide +kernel
theorem n_X6_told_X2 : ∀ w ∈ wsX20, w ∈ wsX6_told := by decide +kernel
theorem n_X6_told_X4 : ∀ w ∈ wsX40, w ∈ wsX6_told := by decide +kernel
theorem n_X6_told_X5 : ∀ w ∈ wsX50, w ∈ wsX6_told := by decide +kernel
theorem n_X6_told_X6 : ∀ w ∈ wsX60, w ∈ wsX6_told := by decide +kernel
set_option maxHeartbeats 8000000 in
set_option maxRecDepth 100000 in
theorem k_X6_told (l : Launch) (G : fxE) (hG : fxGood G) (D : va_G) (cI cJ cZ cH : ClassId) (a_now a_images a_taken a_run a_hotNeedles a_coldNeedles a_signs a_this a_now_night a_now_tries a_now_night_start a_now_night_mass a_now_night_row a_now_night_alike a_now_tries_kept a_now_tries_ended a_signs_found a_signs_codes : Nat) (v_now_night_start : Nat → Int32) (v_now_night_mass : Nat → Int32) (v_now_night_alike : Nat → Int32) (v_now_tries_number : Int32) (v_signs_number : Int32) (v_signs_place : Int32) (v_signs_kept : Int32) (p_what : Int32) : MetI l yX6_told wsX6_told rX6_told G D (tyL cI cJ cZ cH) [.ref a_this, .int p_what] [(a_this, .inr (6, [.ref a_now, .ref a_images, .ref a_taken, .ref a_run, .ref a_hotNeedles, .ref a_coldNeedles, .ref a_signs])), (a_now, .inr (0, [.ref a_now_night, .ref a_now_tries])), (a_now_night, .inr (2, [.ref a_now_night_start, .ref a_now_night_mass, .ref a_now_night_row, .ref a_now_night_alike])), (a_now_night_start, .inl (cI, 2, .inl v_now_night_start)), (a_now_night_mass, .inl (cI, 2, .inl v_now_night_mass)), (a_now_night_alike, .inl (cI, 11, .inl v_now_night_alike)), (a_now_tries, .inr (5, [.ref a_now_tries_kept, .ref a_now_tries_ended, .int v_now_tries_number])), (a_signs, .inr (4, [.ref a_signs_found, .int v_signs_number, .ref a_signs_codes, .int v_signs_place, .int v_signs_kept]))] (X6_told v_now_night_start v_now_night_mass v_now_night_alike v_now_tries_number v_signs_number p_what) [(a_this, .inr (6, [.ref a_now, .ref a_images, .ref a_taken, .ref a_run, .ref a_hotNeedles, .ref a_coldNeedles, .ref a_signs])), (a_now, .inr (0, [.ref a_now_night, .ref a_now_tries])), (a_now_night, .inr (2, [.ref a_now_night_start, .ref a_now_night_mass, .ref a_now_night_row, .ref a_now_night_alike])), (a_now_night_start, .inl (cI, 2, .inl v_now_night_start)), (a_now_night_mass, .inl (cI, 2, .inl v_now_night_mass)), (a_now_night_alike, .inl (cI, 11, .inl v_now_night_alike)), (a_now_tries, .inr (5, [.ref a_now_tries_kept, .ref a_now_tries_ended, .int v_now_tries_number])), (a_signs, .inr (4, [.ref a_signs_found, .int v_signs_number, .ref a_signs_codes, .int v_signs_place, .int v_signs_kept]))] := by
  refine fx_startI (cc := cX6_told) (n := 2) (rt := .int) (plainFor_of_name (by decide)) rfl (Nat.le_of_ble_eq_true rfl) rfl ?_
  intro p e s m args below meth c A Q ls hx hb hml hown hts hA hGs hK hP hD hS hl hret
  have hl : lv_has ls 2 [(0, .ref a_this), (1, .int p_what)] := hl
  have iX0 := n_X6_told_X0
  have iX2 := n_X6_told_X2
  have iX4 := n_X6_told_X4
  have iX5 := n_X6_told_X5
  have iX6 := n_X6_told_X6
  have f10 := hts (.fieldLink RX6 10 "FrozeFirst" "now" "LFrozeFirst$Held;") (by decide +kernel)
  have f56 := hts (.fieldLink RX6 56 "FrozeFirst$Held" "night" "LFrozeFirst$Night;") (by decide +kernel)
  have f89 := hts (.fieldLink RX6 89 "FrozeFirst$Night" "alike" "[I") (by decide +kernel)
  have f70 := hts (.fieldLink RX6 70 "FrozeFirst$Night" "mass" "[I") (by decide +kernel)
  have f60 := hts (.fieldLink RX6 60 "FrozeFirst$Night" "start" "[I") (by decide +kernel)
  have f183 := hts (.fieldLink RX6 183 "FrozeFirst$Held" "tries" "LFrozeFirst$Tries;") (by decide +kernel)
  have f196 := hts (.fieldLink RX6 196 "FrozeFirst$Tries" "number" "I") (by decide +kernel)
  have f44 := hts (.fieldLink RX6 44 "FrozeFirst" "signs" "LFrozeFirst$Signs;") (by decide +kernel)
  have f174 := hts (.fieldLink RX6 174 "FrozeFirst$Signs" "number" "I") (by decide +kernel)
  refine lv_iload_n hx hb dX6_told_0 rfl (lv_at hl 1 rfl) ?_
  refine lv_if_ne (tgt := 12) hx hb dX6_told_1 (by decide) (fun c1 => ?_) (fun c1 => ?_)
  · refine lv_iload_n hx hb dX6_told_12 rfl (lv_at hl 1 rfl) ?_
    refine lv_iconst (v := 1) hx hb dX6_told_13 (by decide) ?_
    refine lv_icmp_ne (tgt := 28) hx hb dX6_told_14 (by decide) (fun c14 => ?_) (fun c14 => ?_)
    · refine lv_iload_n hx hb dX6_told_28 rfl (lv_at hl 1 rfl) ?_
      refine lv_iconst (v := 2) hx hb dX6_told_29 (by decide) ?_
      refine lv_iconst (v := 3) hx hb dX6_told_30 (by decide) ?_
      refine fx_callSI (As := [.int p_what, .int (2 : Int32), .int (3 : Int32)]) (rest := []) (wr := [(a_this, .inr (6, [.ref a_now, .ref a_images, .ref a_taken, .ref a_run, .ref a_hotNeedles, .ref a_coldNeedles, .ref a_signs])), (a_now, .inr (0, [.ref a_now_night, .ref a_now_tries])), (a_now_night, .inr (2, [.ref a_now_night_start, .ref a_now_night_mass, .ref a_now_night_row, .ref a_now_night_alike])), (a_now_night_start, .inl (cI, 2, .inl v_now_night_start)), (a_now_night_mass, .inl (cI, 2, .inl v_now_night_mass)), (a_now_night_alike, .inl (cI, 11, .inl v_now_night_alike)), (a_now_tries, .inr (5, [.ref a_now_tries_kept, .ref a_now_tries_ended, .int v_now_tries_number])), (a_signs, .inr (4, [.ref a_signs_found, .int v_signs_number, .ref a_signs_codes, .int v_signs_place, .int v_signs_kept]))]) ⟨hx, hb, hml, hown, hts⟩ hG hGs (k_X6_within l G hG D cI cJ cZ cH p_what (2 : Int32) (3 : Int32)  ) (va_cwS 3 hts gX6_told_X6_within rfl rfl rfl (by decide +kernel) ⟨by decide, by decide⟩) hK hP hD hS hA [] [0, 1, 2, 3, 4, 5, 6, 7] rfl rfl (by decide) (by decide) (by decide) rfl rfl hl.1 (Nat.le_of_ble_eq_true rfl) dX6_told_31 (Nat.zero_le _) (Nat.zero_le _) (fun H locs hP hD hS => ?_)
      have hP : va_P D vwCl [(a_this, .inr (6, [.ref a_now, .ref a_images, .ref a_taken, .ref a_run, .ref a_hotNeedles, .ref a_coldNeedles, .ref a_signs])), (a_now, .inr (0, [.ref a_now_night, .ref a_now_tries])), (a_now_night, .inr (2, [.ref a_now_night_start, .ref a_now_night_mass, .ref a_now_night_row, .ref a_now_night_alike])), (a_now_night_start, .inl (cI, 2, .inl v_now_night_start)), (a_now_night_mass, .inl (cI, 2, .inl v_now_night_mass)), (a_now_night_alike, .inl (cI, 11, .inl v_now_night_alike)), (a_now_tries, .inr (5, [.ref a_now_tries_kept, .ref a_now_tries_ended, .int v_now_tries_number])), (a_signs, .inr (4, [.ref a_signs_found, .int v_signs_number, .ref a_signs_codes, .int v_signs_place, .int v_signs_kept]))] H := hP
      have hD : va_D A [(a_this, .inr (6, [.ref a_now, .ref a_images, .ref a_taken, .ref a_run, .ref a_hotNeedles, .ref a_coldNeedles, .ref a_signs])), (a_now, .inr (0, [.ref a_now_night, .ref a_now_tries])), (a_now_night, .inr (2, [.ref a_now_night_start, .ref a_now_night_mass, .ref a_now_night_row, .ref a_now_night_alike])), (a_now_night_start, .inl (cI, 2, .inl v_now_night_start)), (a_now_night_mass, .inl (cI, 2, .inl v_now_night_mass)), (a_now_night_alike, .inl (cI, 11, .inl v_now_night_alike)), (a_now_tries, .inr (5, [.ref a_now_tries_kept, .ref a_now_tries_ended, .int v_now_tries_number])), (a_signs, .inr (4, [.ref a_signs_found, .int v_signs_number, .ref a_signs_codes, .int v_signs_place, .int v_signs_kept]))] := hD
      refine lv_if_eq (tgt := 52) hx hb dX6_told_34 (by decide) (fun c34 => ?_) (fun c34 => ?_)
      · refine lv_iload_n hx hb dX6_told_52 rfl (lv_at hl 1 rfl) ?_
        refine lv_iconst (v := 4) hx hb dX6_told_53 (by decide) ?_
        refine lv_iconst (v := 5) hx hb dX6_told_54 (by decide) ?_
        refine fx_callSI (As := [.int p_what, .int (4 : Int32), .int (5 : Int32)]) (rest := []) (wr := [(a_this, .inr (6, [.ref a_now, .ref a_images, .ref a_taken, .ref a_run, .ref a_hotNeedles, .ref a_coldNeedles, .ref a_signs])), (a_now, .inr (0, [.ref a_now_night, .ref a_now_tries])), (a_now_night, .inr (2, [.ref a_now_night_start, .ref a_now_night_mass, .ref a_now_night_row, .ref a_now_night_alike])), (a_now_night_start, .inl (cI, 2, .inl v_now_night_start)), (a_now_night_mass, .inl (cI, 2, .inl v_now_night_mass)), (a_now_night_alike, .inl (cI, 11, .inl v_now_night_alike)), (a_now_tries, .inr (5, [.ref a_now_tries_kept, .ref a_now_tries_ended, .int v_now_tries_number])), (a_signs, .inr (4, [.ref a_signs_found, .int v_signs_number, .ref a_signs_codes, .int v_signs_place, .int v_signs_kept]))]) ⟨hx, hb, hml, hown, hts⟩ hG hGs (k_X6_within l G hG D cI cJ cZ cH p_what (4 : Int32) (5 : Int32)  ) (va_cwS 3 hts gX6_told_X6_within rfl rfl rfl (by decide +kernel) ⟨by decide, by decide⟩) hK hP hD hS hA [] [0, 1, 2, 3, 4, 5, 6, 7] rfl rfl (by decide) (by decide) (by decide) rfl rfl hl.1 (Nat.le_of_ble_eq_true rfl) dX6_told_55 (Nat.zero_le _) (Nat.zero_le _) (fun H locs hP hD hS => ?_)
        have hP : va_P D vwCl [(a_this, .inr (6, [.ref a_now, .ref a_images, .ref a_taken, .ref a_run, .ref a_hotNeedles, .ref a_coldNeedles, .ref a_signs])), (a_now, .inr (0, [.ref a_now_night, .ref a_now_tries])), (a_now_night, .inr (2, [.ref a_now_night_start, .ref a_now_night_mass, .ref a_now_night_row, .ref a_now_night_alike])), (a_now_night_start, .inl (cI, 2, .inl v_now_night_start)), (a_now_night_mass, .inl (cI, 2, .inl v_now_night_mass)), (a_now_night_alike, .inl (cI, 11, .inl v_now_night_alike)), (a_now_tries, .inr (5, [.ref a_now_tries_kept, .ref a_now_tries_ended, .int v_now_tries_number])), (a_signs, .inr (4, [.ref a_signs_found, .int v_signs_number, .ref a_signs_codes, .int v_signs_place, .int v_signs_kept]))] H := hP
        have hD : va_D A [(a_this, .inr (6, [.ref a_now, .ref a_images, .ref a_taken, .ref a_run, .ref a_hotNeedles, .ref a_coldNeedles, .ref a_signs])), (a_now, .inr (0, [.ref a_now_night, .ref a_now_tries])), (a_now_night, .inr (2, [.ref a_now_night_start, .ref a_now_night_mass, .ref a_now_night_row, .ref a_now_night_alike])), (a_now_night_start, .inl (cI, 2, .inl v_now_night_start)), (a_now_night_mass, .inl (cI, 2, .inl v_now_night_mass)), (a_now_night_alike, .inl (cI, 11, .inl v_now_night_alike)), (a_now_tries, .inr (5, [.ref a_now_tries_kept, .ref a_now_tries_ended, .int v_now_tries_number])), (a_signs, .inr (4, [.ref a_signs_found, .int v_signs_number, .ref a_signs_codes, .int v_signs_place, .int v_signs_kept]))] := hD
        refine lv_if_eq (tgt := 76) hx hb dX6_told_58 (by decide) (fun c58 => ?_) (fun c58 => ?_)
        · refine lv_iload_n hx hb dX6_told_76 rfl (lv_at hl 1 rfl) ?_
          refine lv_bipush (v := 10) hx hb dX6_told_77 (by decide) ?_
          refine lv_bipush (v := 20) hx hb dX6_told_79 (by decide) ?_
          refine fx_callSI (As := [.int p_what, .int (10 : Int32), .int (20 : Int32)]) (rest := []) (wr := [(a_this, .inr (6, [.ref a_now, .ref a_images, .ref a_taken, .ref a_run, .ref a_hotNeedles, .ref a_coldNeedles, .ref a_signs])), (a_now, .inr (0, [.ref a_now_night, .ref a_now_tries])), (a_now_night, .inr (2, [.ref a_now_night_start, .ref a_now_night_mass, .ref a_now_night_row, .ref a_now_night_alike])), (a_now_night_start, .inl (cI, 2, .inl v_now_night_start)), (a_now_night_mass, .inl (cI, 2, .inl v_now_night_mass)), (a_now_night_alike, .inl (cI, 11, .inl v_now_night_alike)), (a_now_tries, .inr (5, [.ref a_now_tries_kept, .ref a_now_tries_ended, .int v_now_tries_number])), (a_signs, .inr (4, [.ref a_signs_found, .int v_signs_number, .ref a_signs_codes, .int v_signs_place, .int v_signs_kept]))]) ⟨hx, hb, hml, hown, hts⟩ hG hGs (k_X6_within l G hG D cI cJ cZ cH p_what (10 : Int32) (20 : Int32)  ) (va_cwS 3 hts gX6_told_X6_within rfl rfl rfl (by decide +kernel) ⟨by decide, by decide⟩) hK hP hD hS hA [] [0, 1, 2, 3, 4, 5, 6, 7] rfl rfl (by decide) (by decide) (by decide) rfl rfl hl.1 (Nat.le_of_ble_eq_true rfl) dX6_told_81 (Nat.zero_le _) (Nat.zero_le _) (fun H locs hP hD hS => ?_)
          have hP : va_P D vwCl [(a_this, .inr (6, [.ref a_now, .ref a_images, .ref a_taken, .ref a_run, .ref a_hotNeedles, .ref a_coldNeedles, .ref a_signs])), (a_now, .inr (0, [.ref a_now_night, .ref a_now_tries])), (a_now_night, .inr (2, [.ref a_now_night_start, .ref a_now_night_mass, .ref a_now_night_row, .ref a_now_night_alike])), (a_now_night_start, .inl (cI, 2, .inl v_now_night_start)), (a_now_night_mass, .inl (cI, 2, .inl v_now_night_mass)), (a_now_night_alike, .inl (cI, 11, .inl v_now_night_alike)), (a_now_tries, .inr (5, [.ref a_now_tries_kept, .ref a_now_tries_ended, .int v_now_tries_number])), (a_signs, .inr (4, [.ref a_signs_found, .int v_signs_number, .ref a_signs_codes, .int v_signs_place, .int v_signs_kept]))] H := hP
          have hD : va_D A [(a_this, .inr (6, [.ref a_now, .ref a_images, .ref a_taken, .ref a_run, .ref a_hotNeedles, .ref a_coldNeedles, .ref a_signs])), (a_now, .inr (0, [.ref a_now_night, .ref a_now_tries])), (a_now_night, .inr (2, [.ref a_now_night_start, .ref a_now_night_mass, .ref a_now_night_row, .ref a_now_night_alike])), (a_now_night_start, .inl (cI, 2, .inl v_now_night_start)), (a_now_night_mass, .inl (cI, 2, .inl v_now_night_mass)), (a_now_night_alike, .inl (cI, 11, .inl v_now_night_alike)), (a_now_tries, .inr (5, [.ref a_now_tries_kept, .ref a_now_tries_ended, .int v_now_tries_number])), (a_signs, .inr (4, [.ref a_signs_found, .int v_signs_number, .ref a_signs_codes, .int v_signs_place, .int v_signs_kept]))] := hD
          refine lv_if_eq (tgt := 103) hx hb dX6_told_84 (by decide) (fun c84 => ?_) (fun c84 => ?_)
          · refine lv_bipush (v := (-2)) hx hb dX6_told_103 (by decide) ?_
            exact hret _ _ _ _ _ _ dX6_told_105 (by simp only [X6_told, if_neg c1, if_neg c14, if_pos c34, if_pos c58, if_pos c84]) rfl hP hD hS
          · refine lv_aload_n hx hb dX6_told_87 rfl (lv_at hl 0 rfl) ?_
            refine va_get (D := D) (ci := 6) (v := .ref a_now) (C := RX6) (T := TX6) (N := 7) hx hb hts iX6 hown hK hP 0 rfl rfl 0 (by decide) f10 (fun _ h9 => h9) rfl dX6_told_88 ?_
            refine va_get (D := D) (ci := 0) (v := .ref a_now_night) (C := RX0) (T := TX0) (N := 2) hx hb hts iX0 hown hK hP 1 rfl rfl 0 (by decide) f56 (fun _ h9 => h9) rfl dX6_told_91 ?_
            refine va_get (D := D) (ci := 2) (v := .ref a_now_night_alike) (C := RX2) (T := TX2) (N := 4) hx hb hts iX2 hown hK hP 2 rfl rfl 3 (by decide) f89 (fun _ h9 => h9) rfl dX6_told_94 ?_
            refine lv_iload_n hx hb dX6_told_97 rfl (lv_at hl 1 rfl) ?_
            refine lv_bipush (v := 10) hx hb dX6_told_98 (by decide) ?_
            refine lv_isub hx hb dX6_told_100 ?_
            refine va_iald hx hb hK hP 5 0 rfl rfl (fx_off (A := 10) (B := 20) rfl rfl (by decide) c84 (by decide)) dX6_told_101 ?_
            exact hret _ _ _ _ _ _ dX6_told_102 (by simp only [X6_told, if_neg c1, if_neg c14, if_pos c34, if_pos c58, if_neg c84]) rfl hP hD hS
        · refine lv_aload_n hx hb dX6_told_61 rfl (lv_at hl 0 rfl) ?_
          refine va_get (D := D) (ci := 6) (v := .ref a_now) (C := RX6) (T := TX6) (N := 7) hx hb hts iX6 hown hK hP 0 rfl rfl 0 (by decide) f10 (fun _ h9 => h9) rfl dX6_told_62 ?_
          refine va_get (D := D) (ci := 0) (v := .ref a_now_night) (C := RX0) (T := TX0) (N := 2) hx hb hts iX0 hown hK hP 1 rfl rfl 0 (by decide) f56 (fun _ h9 => h9) rfl dX6_told_65 ?_
          refine va_get (D := D) (ci := 2) (v := .ref a_now_night_mass) (C := RX2) (T := TX2) (N := 4) hx hb hts iX2 hown hK hP 2 rfl rfl 1 (by decide) f70 (fun _ h9 => h9) rfl dX6_told_68 ?_
          refine lv_iload_n hx hb dX6_told_71 rfl (lv_at hl 1 rfl) ?_
          refine lv_iconst (v := 4) hx hb dX6_told_72 (by decide) ?_
          refine lv_isub hx hb dX6_told_73 ?_
          refine va_iald hx hb hK hP 4 0 rfl rfl (fx_off (A := 4) (B := 5) rfl rfl (by decide) c58 (by decide)) dX6_told_74 ?_
          exact hret _ _ _ _ _ _ dX6_told_75 (by simp only [X6_told, if_neg c1, if_neg c14, if_pos c34, if_neg c58]) rfl hP hD hS
      · refine lv_aload_n hx hb dX6_told_37 rfl (lv_at hl 0 rfl) ?_
        refine va_get (D := D) (ci := 6) (v := .ref a_now) (C := RX6) (T := TX6) (N := 7) hx hb hts iX6 hown hK hP 0 rfl rfl 0 (by decide) f10 (fun _ h9 => h9) rfl dX6_told_38 ?_
        refine va_get (D := D) (ci := 0) (v := .ref a_now_night) (C := RX0) (T := TX0) (N := 2) hx hb hts iX0 hown hK hP 1 rfl rfl 0 (by decide) f56 (fun _ h9 => h9) rfl dX6_told_41 ?_
        refine va_get (D := D) (ci := 2) (v := .ref a_now_night_start) (C := RX2) (T := TX2) (N := 4) hx hb hts iX2 hown hK hP 2 rfl rfl 0 (by decide) f60 (fun _ h9 => h9) rfl dX6_told_44 ?_
        refine lv_iload_n hx hb dX6_told_47 rfl (lv_at hl 1 rfl) ?_
        refine lv_iconst (v := 2) hx hb dX6_told_48 (by decide) ?_
        refine lv_isub hx hb dX6_told_49 ?_
        refine va_iald hx hb hK hP 3 0 rfl rfl (fx_off (A := 2) (B := 3) rfl rfl (by decide) c34 (by decide)) dX6_told_50 ?_
        exact hret _ _ _ _ _ _ dX6_told_51 (by simp only [X6_told, if_neg c1, if_neg c14, if_neg c34]) rfl hP hD hS
    · refine lv_aload_n hx hb dX6_told_17 rfl (lv_at hl 0 rfl) ?_
      refine va_get (D := D) (ci := 6) (v := .ref a_now) (C := RX6) (T := TX6) (N := 7) hx hb hts iX6 hown hK hP 0 rfl rfl 0 (by decide) f10 (fun _ h9 => h9) rfl dX6_told_18 ?_
      refine va_get (D := D) (ci := 0) (v := .ref a_now_tries) (C := RX0) (T := TX0) (N := 2) hx hb hts iX0 hown hK hP 1 rfl rfl 1 (by decide) f183 (fun _ h9 => h9) rfl dX6_told_21 ?_
      refine va_get (D := D) (ci := 5) (v := .int v_now_tries_number) (C := RX5) (T := TX5) (N := 3) hx hb hts iX5 hown hK hP 6 rfl rfl 2 (by decide) f196 (fun _ h9 => h9) rfl dX6_told_24 ?_
      exact hret _ _ _ _ _ _ dX6_told_27 (by simp only [X6_told, if_neg c1, if_pos c14]) rfl hP hD hS
  · refine lv_aload_n hx hb dX6_told_4 rfl (lv_at hl 0 rfl) ?_
    refine va_get (D := D) (ci := 6) (v := .ref a_signs) (C := RX6) (T := TX6) (N := 7) hx hb hts iX6 hown hK hP 0 rfl rfl 6 (by decide) f44 (fun _ h9 => h9) rfl dX6_told_5 ?_
    refine va_get (D := D) (ci := 4) (v := .int v_signs_number) (C := RX4) (T := TX4) (N := 5) hx hb hts iX4 hown hK hP 7 rfl rfl 1 (by decide) f174 (fun _ h9 => h9) rfl dX6_told_8 ?_
    exact hret _ _ _ _ _ _ dX6_told_11 (by simp only [X6_told, if_pos c1]) rfl hP hD hS

def X4_add_o_number (v_number : Int32) : Int32 := (if v_number < (60 : Int32) then (v_number + (1 : Int32)) else v_number)
def X4_add_o_codes (v_number : Int32) (v_codes : Nat → Int32) (p_sign : Int32) : Nat → Int32 := (if v_number < (60 : Int32) then (upd v_codes v_number.toNatClampNeg p_sign) else v_codes)
abbrev rX4_add : Room := { frames := 0, cells := 0, slots := 0, locals := 0 }
theorem n_X4_add_X4 : ∀ w ∈ wsX40, w ∈ wsX4_add := by decide +kernel
set_option maxHeartbeats 8000000 in
set_option maxRecDepth 100000 in
theorem k_X4_add (l : Launch) (G : fxE) (hG : fxGood G) (D : va_G) (cI cJ cZ cH : ClassId) (a_found a_codes a_this : Nat) (v_number : Int32) (v_place : Int32) (v_kept : Int32) (v_codes : Nat → Int32) (p_sign : Int32) (h0 : 0 ≤ v_number) : MetV l yX4_add wsX4_add rX4_add G D (tyL cI cJ cZ cH) [.ref a_this, .int p_sign] [(a_this, .inr (4, [.ref a_found, .int v_number, .ref a_codes, .int v_place, .int v_kept])), (a_codes, .inl (cI, 60, .inl v_codes))] [(a_this, .inr (4, [.ref a_found, .int (X4_add_o_number v_number), .ref a_codes, .int v_place, .int v_kept])), (a_codes, .inl (cI, 60, .inl (X4_add_o_codes v_number v_codes p_sign)))] := by
  refine fx_startV (cc := cX4_add) (n := 2) (plainFor_of_name (by decide)) rfl (Nat.le_of_ble_eq_true rfl) ?_
  intro p e s m args below meth c A Q ls hx hb hml hown hts hA hGs hK hP hD hS hl hret
  have hl : lv_has ls 2 [(0, .ref a_this), (1, .int p_sign)] := hl
  have iX4 := n_X4_add_X4
  have f22 := hts (.fieldLink RX4 22 "FrozeFirst$Signs" "number" "I") (by decide +kernel)
  have f18 := hts (.fieldLink RX4 18 "FrozeFirst$Signs" "codes" "[I") (by decide +kernel)
  refine lv_aload_n hx hb dX4_add_0 rfl (lv_at hl 0 rfl) ?_
  refine va_get (D := D) (ci := 4) (v := .int v_number) (C := RX4) (T := TX4) (N := 5) hx hb hts iX4 hown hK hP 0 rfl rfl 1 (by decide) f22 (fun _ h9 => h9) rfl dX4_add_1 ?_
  refine lv_bipush (v := 60) hx hb dX4_add_4 (by decide) ?_
  refine lv_icmp_lt (tgt := 10) hx hb dX4_add_6 (by decide) (fun c6 => ?_) (fun c6 => ?_)
  · refine lv_aload_n hx hb dX4_add_10 rfl (lv_at hl 0 rfl) ?_
    refine va_get (D := D) (ci := 4) (v := .ref a_codes) (C := RX4) (T := TX4) (N := 5) hx hb hts iX4 hown hK hP 0 rfl rfl 2 (by decide) f18 (fun _ h9 => h9) rfl dX4_add_11 ?_
    refine lv_aload_n hx hb dX4_add_14 rfl (lv_at hl 0 rfl) ?_
    refine va_get (D := D) (ci := 4) (v := .int v_number) (C := RX4) (T := TX4) (N := 5) hx hb hts iX4 hown hK hP 0 rfl rfl 1 (by decide) f22 (fun _ h9 => h9) rfl dX4_add_15 ?_
    refine lv_iload_n hx hb dX4_add_18 rfl (lv_at hl 1 rfl) ?_
    refine va_iast hx hb hK hP hD hS 1 0 rfl rfl (fx_vlt (N := 60) rfl h0 c6) dX4_add_19 (fun H locs hP hD hS => ?_)
    have hP : va_P D vwCl [(a_this, .inr (4, [.ref a_found, .int v_number, .ref a_codes, .int v_place, .int v_kept])), (a_codes, .inl (cI, 60, .inl (upd v_codes v_number.toNatClampNeg p_sign)))] H := hP
    have hD : va_D A [(a_this, .inr (4, [.ref a_found, .int v_number, .ref a_codes, .int v_place, .int v_kept])), (a_codes, .inl (cI, 60, .inl (upd v_codes v_number.toNatClampNeg p_sign)))] := hD
    refine lv_aload_n hx hb dX4_add_20 rfl (lv_at hl 0 rfl) ?_
    refine lv_dup hx hb dX4_add_21 rfl ?_
    refine va_get (D := D) (ci := 4) (v := .int v_number) (C := RX4) (T := TX4) (N := 5) hx hb hts iX4 hown hK hP 0 rfl rfl 1 (by decide) f22 (fun _ h9 => h9) rfl dX4_add_22 ?_
    refine lv_iconst (v := 1) hx hb dX4_add_25 (by decide) ?_
    refine lv_iadd hx hb dX4_add_26 ?_
    refine va_put (D := D) (ci := 4) (v := .int (v_number + (1 : Int32))) (ty := .int) (C := RX4) (T := TX4) (N := 5) hx hb hts iX4 tyX4 tyX4_ok nmX4 hown hK hP hD hS 0 rfl rfl 1 (by decide) f22 (fun _ h9 => h9) rfl (tyX4_ok 1 (by decide)) rfl rfl (Nat.le_of_ble_eq_true rfl) dX4_add_27 (fun H locs hP hD hS => ?_)
    have hP : va_P D vwCl [(a_this, .inr (4, [.ref a_found, .int (v_number + (1 : Int32)), .ref a_codes, .int v_place, .int v_kept])), (a_codes, .inl (cI, 60, .inl (upd v_codes v_number.toNatClampNeg p_sign)))] H := hP
    have hD : va_D A [(a_this, .inr (4, [.ref a_found, .int (v_number + (1 : Int32)), .ref a_codes, .int v_place, .int v_kept])), (a_codes, .inl (cI, 60, .inl (upd v_codes v_number.toNatClampNeg p_sign)))] := hD
    exact hret _ _ _ _ _ dX4_add_30 (by simp only [X4_add_o_number, X4_add_o_codes, if_pos c6]) hP hD hS
  · exact hret _ _ _ _ _ dX4_add_9 (by simp only [X4_add_o_number, X4_add_o_codes, if_neg c6]) hP hD hS

def X6_say (v_signs_number : Int32) (p_sign : Int32) : Int32 := (if (X6_within p_sign (33 : Int32) (126 : Int32)) = 0 then ((-2) : Int32) else (if v_signs_number < (60 : Int32) then (X4_add_o_number v_signs_number) else ((-4) : Int32)))
def X6_say_o_signs_number (v_signs_number : Int32) (p_sign : Int32) : Int32 := (if (X6_within p_sign (33 : Int32) (126 : Int32)) = 0 then v_signs_number else (if v_signs_number < (60 : Int32) then (X4_add_o_number v_signs_number) else v_signs_number))
def X6_say_o_signs_codes (v_signs_number : Int32) (v_signs_codes : Nat → Int32) (p_sign : Int32) : Nat → Int32 := (if (X6_within p_sign (33 : Int32) (126 : Int32)) = 0 then v_signs_codes else (if v_signs_number < (60 : Int32) then (X4_add_o_codes v_signs_number v_signs_codes p_sign) else v_signs_codes))
abbrev rX6_say : Room := { frames := 1, cells := 0, slots := 0, locals := 22 }
theorem n_X6_say_X4 : ∀ w ∈ wsX40, w ∈ wsX6_say := by decide +kernel
theorem n_X6_say_X6 : ∀ w ∈ wsX60, w ∈ wsX6_say := by decide +kernel
set_option maxHeartbeats 8000000 in
set_option maxRecDepth 100000 in
theorem k_X6_say (l : Launch) (G : fxE) (hG : fxGood G) (D : va_G) (cI cJ cZ cH : ClassId) (a_now a_images a_taken a_run a_hotNeedles a_coldNeedles a_signs a_this a_signs_found a_signs_codes : Nat) (v_signs_number : Int32) (v_signs_place : Int32) (v_signs_kept : Int32) (v_signs_codes : Nat → Int32) (p_sign : Int32) (h0 : 0 ≤ v_signs_number) : MetI l yX6_say wsX6_say rX6_say G D (tyL cI cJ cZ cH) [.ref a_this, .int p_sign] [(a_this, .inr (6, [.ref a_now, .ref a_images, .ref a_taken, .ref a_run, .ref a_hotNeedles, .ref a_coldNeedles, .ref a_signs])), (a_signs, .inr (4, [.ref a_signs_found, .int v_signs_number, .ref a_signs_codes, .int v_signs_place, .int v_signs_kept])), (a_signs_codes, .inl (cI, 60, .inl v_signs_codes))] (X6_say v_signs_number p_sign) [(a_this, .inr (6, [.ref a_now, .ref a_images, .ref a_taken, .ref a_run, .ref a_hotNeedles, .ref a_coldNeedles, .ref a_signs])), (a_signs, .inr (4, [.ref a_signs_found, .int (X6_say_o_signs_number v_signs_number p_sign), .ref a_signs_codes, .int v_signs_place, .int v_signs_kept])), (a_signs_codes, .inl (cI, 60, .inl (X6_say_o_signs_codes v_signs_number v_signs_codes p_sign)))] := by
  refine fx_startI (cc := cX6_say) (n := 2) (rt := .int) (plainFor_of_name (by decide)) rfl (Nat.le_of_ble_eq_true rfl) rfl ?_
  intro p e s m args below meth c A Q ls hx hb hml hown hts hA hGs hK hP hD hS hl hret
  have hl : lv_has ls 2 [(0, .ref a_this), (1, .int p_sign)] := hl
  have iX4 := n_X6_say_X4
  have iX6 := n_X6_say_X6
  have f44 := hts (.fieldLink RX6 44 "FrozeFirst" "signs" "LFrozeFirst$Signs;") (by decide +kernel)
  have f174 := hts (.fieldLink RX6 174 "FrozeFirst$Signs" "number" "I") (by decide +kernel)
  refine lv_iload_n hx hb dX6_say_0 rfl (lv_at hl 1 rfl) ?_
  refine lv_bipush (v := 33) hx hb dX6_say_1 (by decide) ?_
  refine lv_bipush (v := 126) hx hb dX6_say_3 (by decide) ?_
  refine fx_callSI (As := [.int p_sign, .int (33 : Int32), .int (126 : Int32)]) (rest := []) (wr := [(a_this, .inr (6, [.ref a_now, .ref a_images, .ref a_taken, .ref a_run, .ref a_hotNeedles, .ref a_coldNeedles, .ref a_signs])), (a_signs, .inr (4, [.ref a_signs_found, .int v_signs_number, .ref a_signs_codes, .int v_signs_place, .int v_signs_kept])), (a_signs_codes, .inl (cI, 60, .inl v_signs_codes))]) ⟨hx, hb, hml, hown, hts⟩ hG hGs (k_X6_within l G hG D cI cJ cZ cH p_sign (33 : Int32) (126 : Int32)  ) (va_cwS 3 hts gX6_say_X6_within rfl rfl rfl (by decide +kernel) ⟨by decide, by decide⟩) hK hP hD hS hA [] [0, 1, 2] rfl rfl (by decide) (by decide) (by decide) rfl rfl hl.1 (Nat.le_of_ble_eq_true rfl) dX6_say_5 (Nat.zero_le _) (Nat.zero_le _) (fun H locs hP hD hS => ?_)
  have hP : va_P D vwCl [(a_this, .inr (6, [.ref a_now, .ref a_images, .ref a_taken, .ref a_run, .ref a_hotNeedles, .ref a_coldNeedles, .ref a_signs])), (a_signs, .inr (4, [.ref a_signs_found, .int v_signs_number, .ref a_signs_codes, .int v_signs_place, .int v_signs_kept])), (a_signs_codes, .inl (cI, 60, .inl v_signs_codes))] H := hP
  have hD : va_D A [(a_this, .inr (6, [.ref a_now, .ref a_images, .ref a_taken, .ref a_run, .ref a_hotNeedles, .ref a_coldNeedles, .ref a_signs])), (a_signs, .inr (4, [.ref a_signs_found, .int v_signs_number, .ref a_signs_codes, .int v_signs_place, .int v_signs_kept])), (a_signs_codes, .inl (cI, 60, .inl v_signs_codes))] := hD
  refine lv_if_ne (tgt := 14) hx hb dX6_say_8 (by decide) (fun c8 => ?_) (fun c8 => ?_)
  · refine lv_aload_n hx hb dX6_say_14 rfl (lv_at hl 0 rfl) ?_
    refine va_get (D := D) (ci := 6) (v := .ref a_signs) (C := RX6) (T := TX6) (N := 7) hx hb hts iX6 hown hK hP 0 rfl rfl 6 (by decide) f44 (fun _ h9 => h9) rfl dX6_say_15 ?_
    refine va_get (D := D) (ci := 4) (v := .int v_signs_number) (C := RX4) (T := TX4) (N := 5) hx hb hts iX4 hown hK hP 1 rfl rfl 1 (by decide) f174 (fun _ h9 => h9) rfl dX6_say_18 ?_
    refine lv_bipush (v := 60) hx hb dX6_say_21 (by decide) ?_
    refine lv_icmp_lt (tgt := 29) hx hb dX6_say_23 (by decide) (fun c23 => ?_) (fun c23 => ?_)
    · refine lv_aload_n hx hb dX6_say_29 rfl (lv_at hl 0 rfl) ?_
      refine va_get (D := D) (ci := 6) (v := .ref a_signs) (C := RX6) (T := TX6) (N := 7) hx hb hts iX6 hown hK hP 0 rfl rfl 6 (by decide) f44 (fun _ h9 => h9) rfl dX6_say_30 ?_
      refine lv_iload_n hx hb dX6_say_33 rfl (lv_at hl 1 rfl) ?_
      refine fx_callVV (As := [.int p_sign]) (rest := []) (wr := [(a_this, .inr (6, [.ref a_now, .ref a_images, .ref a_taken, .ref a_run, .ref a_hotNeedles, .ref a_coldNeedles, .ref a_signs]))]) ⟨hx, hb, hml, hown, hts⟩ hG hGs (k_X4_add l G hG D cI cJ cZ cH a_signs_found a_signs_codes a_signs v_signs_number v_signs_place v_signs_kept v_signs_codes p_sign  (by assumption)) (cwV 1 hts gX6_say_X4_add rfl rfl rfl (by decide +kernel) ⟨by decide, by decide⟩) hK hP hD hS hA [1, 2] [0] rfl rfl (by decide) (by decide) (by decide) 1 rfl rfl rfl rfl hl.1 (Nat.le_of_ble_eq_true rfl) dX6_say_34 (Nat.zero_le _) (Nat.zero_le _) (fun H locs hP hD hS => ?_)
      have hP : va_P D vwCl [(a_this, .inr (6, [.ref a_now, .ref a_images, .ref a_taken, .ref a_run, .ref a_hotNeedles, .ref a_coldNeedles, .ref a_signs])), (a_signs, .inr (4, [.ref a_signs_found, .int (X4_add_o_number v_signs_number), .ref a_signs_codes, .int v_signs_place, .int v_signs_kept])), (a_signs_codes, .inl (cI, 60, .inl (X4_add_o_codes v_signs_number v_signs_codes p_sign)))] H := hP
      have hD : va_D A [(a_this, .inr (6, [.ref a_now, .ref a_images, .ref a_taken, .ref a_run, .ref a_hotNeedles, .ref a_coldNeedles, .ref a_signs])), (a_signs, .inr (4, [.ref a_signs_found, .int (X4_add_o_number v_signs_number), .ref a_signs_codes, .int v_signs_place, .int v_signs_kept])), (a_signs_codes, .inl (cI, 60, .inl (X4_add_o_codes v_signs_number v_signs_codes p_sign)))] := hD
      refine lv_aload_n hx hb dX6_say_37 rfl (lv_at hl 0 rfl) ?_
      refine va_get (D := D) (ci := 6) (v := .ref a_signs) (C := RX6) (T := TX6) (N := 7) hx hb hts iX6 hown hK hP 0 rfl rfl 6 (by decide) f44 (fun _ h9 => h9) rfl dX6_say_38 ?_
      refine va_get (D := D) (ci := 4) (v := .int (X4_add_o_number v_signs_number)) (C := RX4) (T := TX4) (N := 5) hx hb hts iX4 hown hK hP 1 rfl rfl 1 (by decide) f174 (fun _ h9 => h9) rfl dX6_say_41 ?_
      exact hret _ _ _ _ _ _ dX6_say_44 (by simp only [X6_say, if_neg c8, if_pos c23]) (by simp only [X6_say_o_signs_number, X6_say_o_signs_codes, if_neg c8, if_pos c23]) hP hD hS
    · refine lv_bipush (v := (-4)) hx hb dX6_say_26 (by decide) ?_
      exact hret _ _ _ _ _ _ dX6_say_28 (by simp only [X6_say, if_neg c8, if_neg c23]) (by simp only [X6_say_o_signs_number, X6_say_o_signs_codes, if_neg c8, if_neg c23]) hP hD hS
  · refine lv_bipush (v := (-2)) hx hb dX6_say_11 (by decide) ?_
    exact hret _ _ _ _ _ _ dX6_say_13 (by simp only [X6_say, if_pos c8]) (by simp only [X6_say_o_signs_number, X6_say_o_signs_codes, if_pos c8]) hP hD hS

def X6_wipe (v_signs_number : Int32) : Int32 := v_signs_number
def X6_wipe_o_signs_number : Int32 := (0 : Int32)
abbrev rX6_wipe : Room := { frames := 0, cells := 0, slots := 0, locals := 0 }
theorem n_X6_wipe_X4 : ∀ w ∈ wsX40, w ∈ wsX6_wipe := by decide +kernel
theorem n_X6_wipe_X6 : ∀ w ∈ wsX60, w ∈ wsX6_wipe := by decide +kernel
set_option maxHeartbeats 8000000 in
set_option maxRecDepth 100000 in
theorem k_X6_wipe (l : Launch) (G : fxE) (hG : fxGood G) (D : va_G) (cI cJ cZ cH : ClassId) (a_now a_images a_taken a_run a_hotNeedles a_coldNeedles a_signs a_this a_signs_found a_signs_codes : Nat) (v_signs_number : Int32) (v_signs_place : Int32) (v_signs_kept : Int32) : MetI l yX6_wipe wsX6_wipe rX6_wipe G D (tyL cI cJ cZ cH) [.ref a_this] [(a_this, .inr (6, [.ref a_now, .ref a_images, .ref a_taken, .ref a_run, .ref a_hotNeedles, .ref a_coldNeedles, .ref a_signs])), (a_signs, .inr (4, [.ref a_signs_found, .int v_signs_number, .ref a_signs_codes, .int v_signs_place, .int v_signs_kept]))] (X6_wipe v_signs_number) [(a_this, .inr (6, [.ref a_now, .ref a_images, .ref a_taken, .ref a_run, .ref a_hotNeedles, .ref a_coldNeedles, .ref a_signs])), (a_signs, .inr (4, [.ref a_signs_found, .int X6_wipe_o_signs_number, .ref a_signs_codes, .int v_signs_place, .int v_signs_kept]))] := by
  refine fx_startI (cc := cX6_wipe) (n := 2) (rt := .int) (plainFor_of_name (by decide)) rfl (Nat.le_of_ble_eq_true rfl) rfl ?_
  intro p e s m args below meth c A Q ls hx hb hml hown hts hA hGs hK hP hD hS hl hret
  have hl : lv_has ls 2 [(0, .ref a_this)] := hl
  have iX4 := n_X6_wipe_X4
  have iX6 := n_X6_wipe_X6
  have f44 := hts (.fieldLink RX6 44 "FrozeFirst" "signs" "LFrozeFirst$Signs;") (by decide +kernel)
  have f174 := hts (.fieldLink RX6 174 "FrozeFirst$Signs" "number" "I") (by decide +kernel)
  refine lv_aload_n hx hb dX6_wipe_0 rfl (lv_at hl 0 rfl) ?_
  refine va_get (D := D) (ci := 6) (v := .ref a_signs) (C := RX6) (T := TX6) (N := 7) hx hb hts iX6 hown hK hP 0 rfl rfl 6 (by decide) f44 (fun _ h9 => h9) rfl dX6_wipe_1 ?_
  refine va_get (D := D) (ci := 4) (v := .int v_signs_number) (C := RX4) (T := TX4) (N := 5) hx hb hts iX4 hown hK hP 1 rfl rfl 1 (by decide) f174 (fun _ h9 => h9) rfl dX6_wipe_4 ?_
  refine lv_istore_n (lv' := [(1, .int v_signs_number), (0, .ref a_this)]) hx hb dX6_wipe_7 rfl hl (by decide) rfl (fun ls hl => ?_)
  refine lv_aload_n hx hb dX6_wipe_8 rfl (lv_at hl 1 rfl) ?_
  refine va_get (D := D) (ci := 6) (v := .ref a_signs) (C := RX6) (T := TX6) (N := 7) hx hb hts iX6 hown hK hP 0 rfl rfl 6 (by decide) f44 (fun _ h9 => h9) rfl dX6_wipe_9 ?_
  refine lv_iconst (v := 0) hx hb dX6_wipe_12 (by decide) ?_
  refine va_put (D := D) (ci := 4) (v := .int (0 : Int32)) (ty := .int) (C := RX4) (T := TX4) (N := 5) hx hb hts iX4 tyX4 tyX4_ok nmX4 hown hK hP hD hS 1 rfl rfl 1 (by decide) f174 (fun _ h9 => h9) rfl (tyX4_ok 1 (by decide)) rfl rfl (Nat.le_of_ble_eq_true rfl) dX6_wipe_13 (fun H locs hP hD hS => ?_)
  have hP : va_P D vwCl [(a_this, .inr (6, [.ref a_now, .ref a_images, .ref a_taken, .ref a_run, .ref a_hotNeedles, .ref a_coldNeedles, .ref a_signs])), (a_signs, .inr (4, [.ref a_signs_found, .int (0 : Int32), .ref a_signs_codes, .int v_signs_place, .int v_signs_kept]))] H := hP
  have hD : va_D A [(a_this, .inr (6, [.ref a_now, .ref a_images, .ref a_taken, .ref a_run, .ref a_hotNeedles, .ref a_coldNeedles, .ref a_signs])), (a_signs, .inr (4, [.ref a_signs_found, .int (0 : Int32), .ref a_signs_codes, .int v_signs_place, .int v_signs_kept]))] := hD
  refine lv_iload_n hx hb dX6_wipe_16 rfl (lv_at hl 0 rfl) ?_
  exact hret _ _ _ _ _ _ dX6_wipe_17 (by simp only [X6_wipe]) (by simp only [X6_wipe_o_signs_number]) hP hD hS
