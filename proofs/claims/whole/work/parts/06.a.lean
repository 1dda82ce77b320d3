def fxStr (G : fxE) (q v N : Nat) (f : Nat → Int32) : Prop := ∀ (A : Nat → Prop) (U : State), G A U → va_O "java/lang/String" q A U U.heap ∧ va_OF "java/lang/String" "coder" "B" (.int 0) q A U U.heap ∧ va_OF "java/lang/String" "value" "[B" (.ref v) q A U U.heap ∧ va_T .byte v N (fun j => .int (f j)) A U U.heap ∧ va_Z "java/lang/String" "COMPACT_STRINGS" "Z" (.int 1) A U U.heap
theorem fx_recvS {q : Nat} {A : Nat → Prop} {s : State} {H : Heap} {locs : List Loc} (h : va_O "java/lang/String" q A s s.heap) (hS : va_S A s.heap H locs) : ∃ cell : Cell, H[q]? = some cell ∧ cell.vm.isStatics = false ∧ s.vm.findClass RJ0 = some cell.cls := by
  obtain ⟨cell, h1, h2, h3, h4⟩ := h
  exact ⟨cell, by rw [hS.2.1 q (Array.getElem?_eq_some_iff.mp h1).1 h4]; exact h1, h2, h3⟩
theorem fx_sh0 (x : Int32) : x >>> ((0 : Int32) &&& 31) = x := by
  apply Int32.toInt_inj.mp
  rw [pk_shr x ((0 : Int32) &&& 31) 0 (by decide)]
  simp
def fy_ends (j : Nat) : Int32 := ([62, 60, 61] : List Int32).getD j 0
def fy_lets (j : Nat) : Int32 := ([115, 114, 116, 110] : List Int32).getD j 0
section Calls
variable {p : Program} {l : Launch} {e : Env} {R : Room} {s : State} {m : MethodId} {args : Array Value} {below : List Frame} {meth : Method} {c : Code} {H : Heap} {locs : List Loc} {Q : State → Prop} {cells slots : Nat}
variable {y : MethodName} {bytes cc : ByteArray} {maxL nL n index : Nat} {ret : Option FieldType} {wsC : List Cond} {rm : Room} {Ts : List Cond} {own C host : String} {b ci : Nat} {As rest st fs : List Value} {D : va_G} {ty : List (ClassId × FieldType)} {wc w1 ws wr : va_W} {A : Nat → Prop} {pc : Nat} {ls : Array Slot} {T : u_T} {N : Nat} {G : fxE}
set_option maxHeartbeats 4000000 in
theorem fx_callRI {rv : Int32} (S : CallFix p m c cc nL s args Ts own) (hG : fxGood G) (hGs : G A s) (hM : MetI l y wsC rm G D ty (.ref b :: As) wc rv w1) (cw : CallW R s args own C index y bytes maxL ret wsC rm 0 0 n)
    (hK : va_K D vwCl ty s) (hP : va_P D vwCl ws H) (hD : va_D A ws) (hS : va_S A s.heap H locs) (hA : ∀ q : Nat, s.heap.size ≤ q → A q)
    (isC isR : List Nat) (hC : isC.map (fun i => ws[i]?) = wc.map some) (hR : isR.map (fun i => ws[i]?) = wr.map some) (hnC : va_nd isC = true) (hn : va_nd isR = true) (hdis : ∀ i ∈ isR, i ∉ isC)
    (hrecv : ∃ cell : Cell, H[b]? = some cell ∧ cell.vm.isStatics = false ∧ s.vm.findClass C = some cell.cls)
    (hst : st = As.reverse ++ .ref b :: rest) (hlen : As.length = n) (hsz : ls.size = nL) (hw : (rest.map fun v => v.category).sum ≤ 8) (hdg : decode cc pc = .ok (.invokevirtual index, 3)) (hce : cells ≤ R.cells) (hsl : slots ≤ R.slots)
    (kk : ∀ (H1 : Heap) (locs1 : List Loc), va_P D vwCl (wr ++ w1) H1 → va_D A (wr ++ w1) → va_S A s.heap H1 locs1 → W p l e R s m args below meth c H1 locs1 cells slots Q (F0 m (pc + 3) ls (.int rv :: rest))) :
    W p l e R s m args below meth c H locs cells slots Q (F0 m pc ls st) := by
  have hF := va_free (wc := wc) hD hS hA isC hC
  have hPc : va_P D vwCl wc H := hP.sub isC (fx_fm _ _ _ hC)
  have hDc : va_D (fun _ => True) wc := (hD.sub isC hnC hC).weaken (fun _ _ _ _ => trivial)
  refine va_calli (va_runV (As := As) (rest := rest) S (hM H.size) cw ⟨fx_blind hG _ _ _ _ _, hrecv, fun U hU hW => ⟨rfl, by rw [hU], by rw [hU]; exact hPc, va_K.moved hW.alike hK, hDc, hG.1 A _ s U H locs hGs hS hF hU hW⟩⟩ rfl hlen hsz hst (lv_room hw) hdg ⟨hce, hsl⟩) hS (fun q _ h => hF q h) hF ?_
  intro r u t H1 locs1 ht hvm hr hB hz hk hS1
  obtain ⟨hP1, hK1, hD1⟩ := hB
  rw [ht] at hP1
  subst hr
  obtain ⟨hP2, hD2⟩ := va_join (wr := wr) (w1 := w1) hP hD isC isR hC hR hn hdis hk hF hP1 hD1
  exact kk H1 locs1 hP2 hD2 hS1
end Calls

def J0_coder_7d493 : Int32 := (0 : Int32)
abbrev rJ0_coder_7d493 : Room := { frames := 0, cells := 0, slots := 0, locals := 0 }
set_option maxHeartbeats 8000000 in
set_option maxRecDepth 100000 in
theorem k_J0_coder_7d493 (l : Launch) (G : fxE) (hG : fxGood G) (D : va_G) (cI cJ cZ cH : ClassId) (a_this a_v : Nat) (N_s : Nat) (v_s : Nat → Int32) (hstr : fxStr G a_this a_v N_s v_s) : MetI l yJ0_coder_7d493 wsJ0_coder_7d493 rJ0_coder_7d493 G D (tyL cI cJ cZ cH) [.ref a_this] [] J0_coder_7d493 [] := by
  refine fx_startI (cc := cJ0_coder_7d493) (n := 1) (rt := .byte) (plainFor_of_name (by decide)) rfl (Nat.le_of_ble_eq_true rfl) rfl ?_
  intro p e s m args below meth c A Q ls hx hb hml hown hts hA hGs hK hP hD hS hl hret
  have hl : lv_has ls 1 [(0, .ref a_this)] := hl
  have f38 := hts (.fieldLink RJ0 38 "java/lang/String" "COMPACT_STRINGS" "Z") (by decide +kernel)
  have f15 := hts (.fieldLink RJ0 15 "java/lang/String" "coder" "B") (by decide +kernel)
  obtain ⟨gO, gC, gV, gT, gZ⟩ := hstr A s hGs
  refine va_gets hx hb gZ hS hown f38 (fun _ h9 => h9) dJ0_coder_7d493_0 ?_
  refine lv_if_eq (tgt := 13) hx hb dJ0_coder_7d493_3 (by decide) (fun c3 => ?_) (fun c3 => ?_)
  · exact absurd c3 (by decide)
  · refine lv_aload_n hx hb dJ0_coder_7d493_6 rfl (lv_at hl 0 rfl) ?_
    refine vk_getf hx hb gC hS hown f15 (fun _ h9 => h9) dJ0_coder_7d493_7 ?_
    refine lv_goto (tgt := 14) hx hb dJ0_coder_7d493_10 (by decide) ?_
    exact hret _ _ _ _ _ _ dJ0_coder_7d493_14 (by simp only [J0_coder_7d493, if_neg c3]) rfl hP hD hS

def J0_isLatin1_aae02 : Int32 := (1 : Int32)
abbrev rJ0_isLatin1_aae02 : Room := { frames := 0, cells := 0, slots := 0, locals := 0 }
theorem b_J0_isLatin1_aae02 : fx_b J0_isLatin1_aae02 := by
  unfold J0_isLatin1_aae02
  try unfold J0_isLatin1_aae02
  repeat' split
  all_goals first | exact Or.inl rfl | exact Or.inr rfl
set_option maxHeartbeats 8000000 in
set_option maxRecDepth 100000 in
theorem k_J0_isLatin1_aae02 (l : Launch) (G : fxE) (hG : fxGood G) (D : va_G) (cI cJ cZ cH : ClassId) (a_this a_v : Nat) (N_s : Nat) (v_s : Nat → Int32) (hstr : fxStr G a_this a_v N_s v_s) : MetI l yJ0_isLatin1_aae02 wsJ0_isLatin1_aae02 rJ0_isLatin1_aae02 G D (tyL cI cJ cZ cH) [.ref a_this] [] J0_isLatin1_aae02 [] := by
  refine fx_startI (cc := cJ0_isLatin1_aae02) (n := 1) (rt := .boolean) (plainFor_of_name (by decide)) rfl (Nat.le_of_ble_eq_true rfl) (fx_nb (b_J0_isLatin1_aae02 )) ?_
  intro p e s m args below meth c A Q ls hx hb hml hown hts hA hGs hK hP hD hS hl hret
  have hl : lv_has ls 1 [(0, .ref a_this)] := hl
  have f38 := hts (.fieldLink RJ0 38 "java/lang/String" "COMPACT_STRINGS" "Z") (by decide +kernel)
  have f15 := hts (.fieldLink RJ0 15 "java/lang/String" "coder" "B") (by decide +kernel)
  obtain ⟨gO, gC, gV, gT, gZ⟩ := hstr A s hGs
  refine va_gets hx hb gZ hS hown f38 (fun _ h9 => h9) dJ0_isLatin1_aae02_0 ?_
  refine lv_if_eq (tgt := 17) hx hb dJ0_isLatin1_aae02_3 (by decide) (fun c3 => ?_) (fun c3 => ?_)
  · exact absurd c3 (by decide)
  · refine lv_aload_n hx hb dJ0_isLatin1_aae02_6 rfl (lv_at hl 0 rfl) ?_
    refine vk_getf hx hb gC hS hown f15 (fun _ h9 => h9) dJ0_isLatin1_aae02_7 ?_
    refine lv_if_ne (tgt := 17) hx hb dJ0_isLatin1_aae02_10 (by decide) (fun c10 => ?_) (fun c10 => ?_)
    · exact absurd rfl c10
    · refine lv_iconst (v := 1) hx hb dJ0_isLatin1_aae02_13 (by decide) ?_
      refine lv_goto (tgt := 18) hx hb dJ0_isLatin1_aae02_14 (by decide) ?_
      exact hret _ _ _ _ _ _ dJ0_isLatin1_aae02_18 (by simp only [J0_isLatin1_aae02, if_neg c3, if_pos c10]) rfl hP hD hS

def J0_length_8abf5 (N_s : Nat) : Int32 := (nI N_s)
abbrev rJ0_length_8abf5 : Room := { frames := 1, cells := 0, slots := 0, locals := 20 }
set_option maxHeartbeats 8000000 in
set_option maxRecDepth 100000 in
theorem k_J0_length_8abf5 (l : Launch) (G : fxE) (hG : fxGood G) (D : va_G) (cI cJ cZ cH : ClassId) (a_this a_v : Nat) (N_s : Nat) (v_s : Nat → Int32) (hstr : fxStr G a_this a_v N_s v_s) : MetI l yJ0_length_8abf5 wsJ0_length_8abf5 rJ0_length_8abf5 G D (tyL cI cJ cZ cH) [.ref a_this] [] (J0_length_8abf5 N_s) [] := by
  refine fx_startI (cc := cJ0_length_8abf5) (n := 1) (rt := .int) (plainFor_of_name (by decide)) rfl (Nat.le_of_ble_eq_true rfl) rfl ?_
  intro p e s m args below meth c A Q ls hx hb hml hown hts hA hGs hK hP hD hS hl hret
  have hl : lv_has ls 1 [(0, .ref a_this)] := hl
  have f9 := hts (.fieldLink RJ0 9 "java/lang/String" "value" "[B") (by decide +kernel)
  obtain ⟨gO, gC, gV, gT, gZ⟩ := hstr A s hGs
  refine lv_aload_n hx hb dJ0_length_8abf5_0 rfl (lv_at hl 0 rfl) ?_
  refine vk_getf hx hb gV hS hown f9 (fun _ h9 => h9) dJ0_length_8abf5_1 ?_
  refine va_tlen hx hb gT hS rfl dJ0_length_8abf5_4 ?_
  refine lv_aload_n hx hb dJ0_length_8abf5_5 rfl (lv_at hl 0 rfl) ?_
  refine fx_callRI (As := []) (rest := [.int (nI N_s)]) (wr := []) ⟨hx, hb, hml, hown, hts⟩ hG hGs (k_J0_coder_7d493 l G hG D cI cJ cZ cH a_this a_v N_s v_s  hstr) (cwV 0 hts gJ0_length_8abf5_J0_coder_7d493 rfl rfl rfl (by decide +kernel) ⟨by decide, by decide⟩) hK hP hD hS hA [] [] rfl rfl (by decide) (by decide) (by decide) (fx_recvS gO hS) rfl rfl hl.1 (Nat.le_of_ble_eq_true rfl) dJ0_length_8abf5_6 (Nat.zero_le _) (Nat.zero_le _) (fun H locs hP hD hS => ?_)
  have hP : va_P D vwCl [] H := hP
  have hD : va_D A [] := hD
  refine W.eq (g2 := F0 m 9 ls [.int (0 : Int32), .int (nI N_s)]) (congrArg (fun z9 : Int32 => F0 m 9 ls (.int z9 :: [.int (nI N_s)])) rfl) ?_
  refine lv_ishr hx hb dJ0_length_8abf5_9 ?_
  refine W.eq (g2 := F0 m 10 ls [.int (nI N_s)]) (congrArg (fun z9 : Int32 => F0 m 10 ls (.int z9 :: [])) (fx_sh0 _)) ?_
  exact hret _ _ _ _ _ _ dJ0_length_8abf5_10 (by simp only [J0_length_8abf5]) rfl hP hD hS

def J1_canEncode_9a6ad_m16_s0 (p_c : Int32) : Int32 := (if p_c < 0 then (0 : Int32) else (if (255 : Int32) < p_c then (0 : Int32) else (1 : Int32)))
def J1_canEncode_9a6ad (p_c : Int32) : Int32 := (J1_canEncode_9a6ad_m16_s0 p_c)
abbrev rJ1_canEncode_9a6ad : Room := { frames := 0, cells := 0, slots := 0, locals := 0 }
theorem b_J1_canEncode_9a6ad (p_c : Int32) : fx_b (J1_canEncode_9a6ad p_c) := by
  unfold J1_canEncode_9a6ad
  try unfold J1_canEncode_9a6ad_m16_s0
  repeat' split
  all_goals first | exact Or.inl rfl | exact Or.inr rfl
set_option maxHeartbeats 8000000 in
set_option maxRecDepth 100000 in
theorem k_J1_canEncode_9a6ad (l : Launch) (G : fxE) (hG : fxGood G) (D : va_G) (cI cJ cZ cH : ClassId) (p_c : Int32) : MetI l yJ1_canEncode_9a6ad wsJ1_canEncode_9a6ad rJ1_canEncode_9a6ad G D (tyL cI cJ cZ cH) [.int p_c] [] (J1_canEncode_9a6ad p_c) [] := by
  refine fx_startI (cc := cJ1_canEncode_9a6ad) (n := 1) (rt := .boolean) (plainFor_of_name (by decide)) rfl (Nat.le_of_ble_eq_true rfl) (fx_nb (b_J1_canEncode_9a6ad p_c)) ?_
  intro p e s m args below meth c A Q ls hx hb hml hown hts hA hGs hK hP hD hS hl hret
  have hl : lv_has ls 1 [(0, .int p_c)] := hl
  have C16 : ∀ (x16_s0 : Int32), (J1_canEncode_9a6ad_m16_s0 p_c) = x16_s0 → ∀ (H : Heap) (locs : List Loc), va_P D vwCl [] H → va_D A [] → va_S A s.heap H locs → ∀ (ls : Array Slot), lv_has ls 1 [] → W p l e rJ1_canEncode_9a6ad s m args below meth c H locs 0 0 Q (F0 m 16 ls [.int x16_s0]) := by
    intro x16_s0 hx16_s0 H locs hP hD hS ls hl
    subst hx16_s0
    exact hret _ _ _ _ _ _ dJ1_canEncode_9a6ad_16 (by simp only [J1_canEncode_9a6ad]) rfl hP hD hS
  refine lv_iload_n hx hb dJ1_canEncode_9a6ad_0 rfl (lv_at hl 0 rfl) ?_
  refine lv_if_lt (tgt := 15) hx hb dJ1_canEncode_9a6ad_1 (by decide) (fun c1 => ?_) (fun c1 => ?_)
  · refine lv_iconst (v := 0) hx hb dJ1_canEncode_9a6ad_15 (by decide) ?_
    exact C16 (0 : Int32) (by simp only [J1_canEncode_9a6ad_m16_s0, if_pos c1]) _ _ hP hD hS ls (lv_sub hl [] rfl)
  · refine lv_iload_n hx hb dJ1_canEncode_9a6ad_4 rfl (lv_at hl 0 rfl) ?_
    refine lv_sipush (v := 255) hx hb dJ1_canEncode_9a6ad_5 (by decide) ?_
    refine lv_icmp_gt (tgt := 15) hx hb dJ1_canEncode_9a6ad_8 (by decide) (fun c8 => ?_) (fun c8 => ?_)
    · refine lv_iconst (v := 0) hx hb dJ1_canEncode_9a6ad_15 (by decide) ?_
      exact C16 (0 : Int32) (by simp only [J1_canEncode_9a6ad_m16_s0, if_neg c1, if_pos c8]) _ _ hP hD hS ls (lv_sub hl [] rfl)
    · refine lv_iconst (v := 1) hx hb dJ1_canEncode_9a6ad_11 (by decide) ?_
      refine lv_goto (tgt := 16) hx hb dJ1_canEncode_9a6ad_12 (by decide) ?_
      exact C16 (1 : Int32) (by simp only [J1_canEncode_9a6ad_m16_s0, if_neg c1, if_neg c8]) _ _ hP hD hS ls (lv_sub hl [] rfl)

def J1_indexOfChar_4cfef_L7 (v_s : Nat → Int32) (p_ch : Int32) (p_max : Int32) : Nat → Nat → (Int32)
  | 0, j7 => (0 : Int32)
  | n + 1, j7 => (if p_max ≤ nI j7 then ((-1) : Int32) else (if (v_s j7) = p_ch.toInt8.toInt32 then nI j7 else (J1_indexOfChar_4cfef_L7 v_s p_ch p_max n (j7 + 1))))
def J1_indexOfChar_4cfef (N_s : Nat) (v_s : Nat → Int32) (p_ch : Int32) (p_max : Int32) : Int32 := (J1_indexOfChar_4cfef_L7 v_s p_ch p_max (N_s + 1) 0)
abbrev rJ1_indexOfChar_4cfef : Room := { frames := 0, cells := 0, slots := 0, locals := 0 }
set_option maxHeartbeats 8000000 in
set_option maxRecDepth 100000 in
theorem k_J1_indexOfChar_4cfef (l : Launch) (G : fxE) (hG : fxGood G) (D : va_G) (cI cJ cZ cH : ClassId) (a_value : Nat) (N_s : Nat) (v_s : Nat → Int32) (p_ch : Int32) (p_from : Int32) (p_max : Int32) (hT : ∀ (A : Nat → Prop) (U : State), G A U → va_T .byte a_value N_s (fun j => .int (v_s j)) A U U.heap) (hf : p_from = 0) (hmx : p_max = nI N_s) (hN : N_s < 2 ^ 30) : MetI l yJ1_indexOfChar_4cfef wsJ1_indexOfChar_4cfef rJ1_indexOfChar_4cfef G D (tyL cI cJ cZ cH) [.ref a_value, .int p_ch, .int p_from, .int p_max] [] (J1_indexOfChar_4cfef N_s v_s p_ch p_max) [] := by
  refine fx_startI (cc := cJ1_indexOfChar_4cfef) (n := 6) (rt := .int) (plainFor_of_name (by decide)) rfl (Nat.le_of_ble_eq_true rfl) rfl ?_
  intro p e s m args below meth c A Q ls hx hb hml hown hts hA hGs hK hP hD hS hl hret
  have hl : lv_has ls 6 [(0, .ref a_value), (1, .int p_ch), (2, .int p_from), (3, .int p_max)] := hl
  have gT := hT A s hGs
  refine lv_iload_n hx hb dJ1_indexOfChar_4cfef_0 rfl (lv_at hl 1 rfl) ?_
  refine lv_i2b hx hb dJ1_indexOfChar_4cfef_1 rfl ?_
  refine lv_istore (lv' := [(4, .int p_ch.toInt8.toInt32), (0, .ref a_value), (1, .int p_ch), (2, .int p_from), (3, .int p_max)]) hx hb dJ1_indexOfChar_4cfef_2 hl (by decide) rfl (fun ls hl => ?_)
  refine lv_iload_n hx hb dJ1_indexOfChar_4cfef_4 rfl (lv_at hl 3 rfl) ?_
  refine W.eq (g2 := F0 m 5 ls [.int (0 : Int32)]) (congrArg (fun z9 : Int32 => F0 m 5 ls (.int z9 :: [])) hf) ?_
  refine lv_istore (lv' := [(5, .int (0 : Int32)), (4, .int p_ch.toInt8.toInt32), (0, .ref a_value), (1, .int p_ch), (2, .int p_from), (3, .int p_max)]) hx hb dJ1_indexOfChar_4cfef_5 hl (by decide) rfl (fun ls hl => ?_)
  have hM0 : (J1_indexOfChar_4cfef N_s v_s p_ch p_max) = (J1_indexOfChar_4cfef_L7 v_s p_ch p_max (N_s + 1) 0) := by simp only [J1_indexOfChar_4cfef]
  have L7 : ∀ (n : Nat) (j7 : Nat), N_s - j7 < n → j7 ≤ N_s → J1_indexOfChar_4cfef_L7 v_s p_ch p_max n j7 = (J1_indexOfChar_4cfef_L7 v_s p_ch p_max (N_s + 1) 0) → ∀ (H : Heap) (locs : List Loc), va_P D vwCl [] H → va_D A [] → va_S A s.heap H locs → ∀ (ls : Array Slot), lv_has ls 6 [(0, .ref a_value), (3, .int p_max), (4, .int p_ch.toInt8.toInt32), (5, .int (nI j7))] → W p l e rJ1_indexOfChar_4cfef s m args below meth c H locs 0 0 Q (F0 m 7 ls []) := by
    intro n
    induction n with
    | zero => intro j7 h1; exact absurd h1 (Nat.not_lt_zero _)
    | succ n ih7 =>
      intro j7 hm7 hj7 hF7 H locs hP hD hS ls hl
      refine lv_iload hx hb dJ1_indexOfChar_4cfef_7 (lv_at hl 3 rfl) ?_
      refine lv_iload_n hx hb dJ1_indexOfChar_4cfef_9 rfl (lv_at hl 1 rfl) ?_
      refine lv_icmp_ge (tgt := 31) hx hb dJ1_indexOfChar_4cfef_10 (by decide) (fun c10 => ?_) (fun c10 => ?_)
      · have n10 : N_s ≤ j7 := (fx_leN (x := p_max) (y := (nI j7)) (a := N_s) (b := j7) hmx rfl (by omega) (by omega)).mp c10
        refine lv_iconst (v := (-1)) hx hb dJ1_indexOfChar_4cfef_31 (by decide) ?_
        have hr7 : (J1_indexOfChar_4cfef_L7 v_s p_ch p_max (N_s + 1) 0) = ((-1) : Int32) := hF7.symm.trans (by simp only [J1_indexOfChar_4cfef_L7, if_pos c10])
        exact hret _ _ _ _ _ _ dJ1_indexOfChar_4cfef_32 (by rw [hM0, hr7]) rfl hP hD hS
      · have n10 : ¬ (N_s ≤ j7) := fun h9 => c10 ((fx_leN (x := p_max) (y := (nI j7)) (a := N_s) (b := j7) hmx rfl (by omega) (by omega)).mpr h9)
        refine lv_aload_n hx hb dJ1_indexOfChar_4cfef_13 rfl (lv_at hl 0 rfl) ?_
        refine lv_iload hx hb dJ1_indexOfChar_4cfef_14 (lv_at hl 3 rfl) ?_
        refine va_tb (v := .int (v_s j7)) hx hb gT hS (vp_in_nI (by omega) (by omega)) (congrArg (fun z9 : Nat => Value.int (v_s z9)) (nI_clamp (by omega))) dJ1_indexOfChar_4cfef_16 ?_
        refine lv_iload hx hb dJ1_indexOfChar_4cfef_17 (lv_at hl 2 rfl) ?_
        refine lv_icmp_ne (tgt := 25) hx hb dJ1_indexOfChar_4cfef_19 (by decide) (fun c19 => ?_) (fun c19 => ?_)
        · refine lv_iinc (v := nI (j7 + 1)) (lv' := [(5, .int (nI (j7 + 1))), (0, .ref a_value), (3, .int p_max), (4, .int p_ch.toInt8.toInt32)]) hx hb dJ1_indexOfChar_4cfef_25 hl (k := 3) rfl (fx_inc _ 1) (by decide) rfl (fun ls hl => ?_)
          refine lv_goto (tgt := 7) hx hb dJ1_indexOfChar_4cfef_28 (by decide) ?_
          exact ih7 (j7 + 1) (by omega) (by omega) (by rw [← hF7]; simp only [J1_indexOfChar_4cfef_L7, if_neg c10, if_neg c19]) _ _ hP hD hS ls (lv_sub hl [1, 2, 3, 0] rfl)
        · refine lv_iload hx hb dJ1_indexOfChar_4cfef_22 (lv_at hl 3 rfl) ?_
          have hr7 : (J1_indexOfChar_4cfef_L7 v_s p_ch p_max (N_s + 1) 0) = nI j7 := hF7.symm.trans (by simp only [J1_indexOfChar_4cfef_L7, if_neg c10, if_pos c19])
          exact hret _ _ _ _ _ _ dJ1_indexOfChar_4cfef_24 (by rw [hM0, hr7]) rfl hP hD hS
  exact L7 (N_s + 1) 0 (by omega) (Nat.zero_le _) rfl _ _ hP hD hS ls (lv_sub hl [2, 5, 1, 0] rfl)

def J1_indexOf_4cfef (N_s : Nat) (v_s : Nat → Int32) (p_ch : Int32) : Int32 := (if (J1_canEncode_9a6ad p_ch) = 0 then ((-1) : Int32) else (if (0 : Int32) < nI N_s then (J1_indexOfChar_4cfef N_s v_s p_ch (nI N_s)) else ((-1) : Int32)))
abbrev rJ1_indexOf_4cfef : Room := { frames := 1, cells := 0, slots := 0, locals := 25 }
set_option maxHeartbeats 8000000 in
set_option maxRecDepth 100000 in
theorem k_J1_indexOf_4cfef (l : Launch) (G : fxE) (hG : fxGood G) (D : va_G) (cI cJ cZ cH : ClassId) (a_value : Nat) (N_s : Nat) (v_s : Nat → Int32) (p_ch : Int32) (p_from : Int32) (p_max : Int32) (hT : ∀ (A : Nat → Prop) (U : State), G A U → va_T .byte a_value N_s (fun j => .int (v_s j)) A U U.heap) (hf : p_from = 0) (hmx : p_max = nI N_s) (hN : N_s < 2 ^ 30) : MetI l yJ1_indexOf_4cfef wsJ1_indexOf_4cfef rJ1_indexOf_4cfef G D (tyL cI cJ cZ cH) [.ref a_value, .int p_ch, .int p_from, .int p_max] [] (J1_indexOf_4cfef N_s v_s p_ch) [] := by
  refine fx_startI (cc := cJ1_indexOf_4cfef) (n := 4) (rt := .int) (plainFor_of_name (by decide)) rfl (Nat.le_of_ble_eq_true rfl) rfl ?_
  intro p e s m args below meth c A Q ls hx hb hml hown hts hA hGs hK hP hD hS hl hret
  have hl : lv_has ls 4 [(0, .ref a_value), (1, .int p_ch), (2, .int p_from), (3, .int p_max)] := hl
  have m92 := hts (.methodLink RJ1 92 Lib.Math.max.name) (by decide +kernel)
  have msmax := hts (.static Lib.Math.max.name) (by decide +kernel)
  have mi := hts (.initialized "java/lang/Math") (by decide +kernel)
  have mcmax := hts (.code Lib.Math.max.name Lib.Math.max.code 2 (some .int)) (by decide +kernel)
  have m38 := hts (.methodLink RJ1 38 Lib.Math.min.name) (by decide +kernel)
  have msmin := hts (.static Lib.Math.min.name) (by decide +kernel)
  have mcmin := hts (.code Lib.Math.min.name Lib.Math.min.code 2 (some .int)) (by decide +kernel)
  have gT := hT A s hGs
  refine lv_iload_n hx hb dJ1_indexOf_4cfef_0 rfl (lv_at hl 1 rfl) ?_
  refine fx_callSI (As := [.int p_ch]) (rest := []) (wr := []) ⟨hx, hb, hml, hown, hts⟩ hG hGs (k_J1_canEncode_9a6ad l G hG D cI cJ cZ cH p_ch  ) (va_cwS 1 hts gJ1_indexOf_4cfef_J1_canEncode_9a6ad rfl rfl rfl (by decide +kernel) ⟨by decide, by decide⟩) hK hP hD hS hA [] [] rfl rfl (by decide) (by decide) (by decide) rfl rfl hl.1 (Nat.le_of_ble_eq_true rfl) dJ1_indexOf_4cfef_1 (Nat.zero_le _) (Nat.zero_le _) (fun H locs hP hD hS => ?_)
  have hP : va_P D vwCl [] H := hP
  have hD : va_D A [] := hD
  refine lv_if_ne (tgt := 9) hx hb dJ1_indexOf_4cfef_4 (by decide) (fun c4 => ?_) (fun c4 => ?_)
  · refine lv_iload_n hx hb dJ1_indexOf_4cfef_9 rfl (lv_at hl 2 rfl) ?_
    refine lv_iconst (v := 0) hx hb dJ1_indexOf_4cfef_10 (by decide) ?_
    refine va_mmax hx hb (by rw [hml]; exact hl.1.symm) hown m92 msmax mi mcmax (by decide) (Nat.le_of_ble_eq_true rfl) (Nat.zero_le _) (Nat.zero_le _) dJ1_indexOf_4cfef_11 ?_
    refine W.eq (g2 := F0 m 14 ls [.int (0 : Int32)]) (congrArg (fun z9 : Int32 => F0 m 14 ls (.int z9 :: [])) (by rw [hf]; rfl)) ?_
    refine lv_istore_n (lv' := [(2, .int (0 : Int32)), (0, .ref a_value), (1, .int p_ch), (3, .int p_max)]) hx hb dJ1_indexOf_4cfef_14 rfl hl (by decide) rfl (fun ls hl => ?_)
    refine lv_iload_n hx hb dJ1_indexOf_4cfef_15 rfl (lv_at hl 3 rfl) ?_
    refine lv_aload_n hx hb dJ1_indexOf_4cfef_16 rfl (lv_at hl 1 rfl) ?_
    refine va_tlen hx hb gT hS rfl dJ1_indexOf_4cfef_17 ?_
    refine va_mmin hx hb (by rw [hml]; exact hl.1.symm) hown m38 msmin mi mcmin (by decide) (Nat.le_of_ble_eq_true rfl) (Nat.zero_le _) (Nat.zero_le _) dJ1_indexOf_4cfef_18 ?_
    refine W.eq (g2 := F0 m 21 ls [.int (nI N_s)]) (congrArg (fun z9 : Int32 => F0 m 21 ls (.int z9 :: [])) (by rw [hmx]; exact ite_self _)) ?_
    refine lv_istore_n (lv' := [(3, .int (nI N_s)), (2, .int (0 : Int32)), (0, .ref a_value), (1, .int p_ch)]) hx hb dJ1_indexOf_4cfef_21 rfl hl (by decide) rfl (fun ls hl => ?_)
    refine lv_iload_n hx hb dJ1_indexOf_4cfef_22 rfl (lv_at hl 1 rfl) ?_
    refine lv_iload_n hx hb dJ1_indexOf_4cfef_23 rfl (lv_at hl 0 rfl) ?_
    refine lv_icmp_lt (tgt := 29) hx hb dJ1_indexOf_4cfef_24 (by decide) (fun c24 => ?_) (fun c24 => ?_)
    · have n24 : 0 < N_s := (fx_ltN (x := (0 : Int32)) (y := (nI N_s)) (a := 0) (b := N_s) rfl rfl (by omega) (by omega)).mp c24
      refine lv_aload_n hx hb dJ1_indexOf_4cfef_29 rfl (lv_at hl 2 rfl) ?_
      refine lv_iload_n hx hb dJ1_indexOf_4cfef_30 rfl (lv_at hl 3 rfl) ?_
      refine lv_iload_n hx hb dJ1_indexOf_4cfef_31 rfl (lv_at hl 1 rfl) ?_
      refine lv_iload_n hx hb dJ1_indexOf_4cfef_32 rfl (lv_at hl 0 rfl) ?_
      refine fx_callSI (As := [.ref a_value, .int p_ch, .int (0 : Int32), .int (nI N_s)]) (rest := []) (wr := []) ⟨hx, hb, hml, hown, hts⟩ hG hGs (k_J1_indexOfChar_4cfef l G hG D cI cJ cZ cH a_value N_s v_s p_ch (0 : Int32) (nI N_s)  hT rfl rfl hN) (va_cwS 4 hts gJ1_indexOf_4cfef_J1_indexOfChar_4cfef rfl rfl rfl (by decide +kernel) ⟨by decide, by decide⟩) hK hP hD hS hA [] [] rfl rfl (by decide) (by decide) (by decide) rfl rfl hl.1 (Nat.le_of_ble_eq_true rfl) dJ1_indexOf_4cfef_33 (Nat.zero_le _) (Nat.zero_le _) (fun H locs hP hD hS => ?_)
      have hP : va_P D vwCl [] H := hP
      have hD : va_D A [] := hD
      exact hret _ _ _ _ _ _ dJ1_indexOf_4cfef_36 (by simp only [J1_indexOf_4cfef, if_neg c4, if_pos c24]) rfl hP hD hS
    · have n24 : ¬ (0 < N_s) := fun h9 => c24 ((fx_ltN (x := (0 : Int32)) (y := (nI N_s)) (a := 0) (b := N_s) rfl rfl (by omega) (by omega)).mpr h9)
      refine lv_iconst (v := (-1)) hx hb dJ1_indexOf_4cfef_27 (by decide) ?_
      exact hret _ _ _ _ _ _ dJ1_indexOf_4cfef_28 (by simp only [J1_indexOf_4cfef, if_neg c4, if_neg c24]) rfl hP hD hS
  · refine lv_iconst (v := (-1)) hx hb dJ1_indexOf_4cfef_7 (by decide) ?_
    exact hret _ _ _ _ _ _ dJ1_indexOf_4cfef_8 (by simp only [J1_indexOf_4cfef, if_pos c4]) rfl hP hD hS

def J0_indexOf_7cf53 (N_s : Nat) (v_s : Nat → Int32) (p_ch : Int32) : Int32 := (J1_indexOf_4cfef N_s v_s p_ch)
abbrev rJ0_indexOf_7cf53 : Room := { frames := 2, cells := 0, slots := 0, locals := 48 }
set_option maxHeartbeats 8000000 in
set_option maxRecDepth 100000 in
theorem k_J0_indexOf_7cf53 (l : Launch) (G : fxE) (hG : fxGood G) (D : va_G) (cI cJ cZ cH : ClassId) (a_this a_v : Nat) (N_s : Nat) (v_s : Nat → Int32) (p_ch : Int32) (p_from : Int32) (hstr : fxStr G a_this a_v N_s v_s) (hN : N_s < 2 ^ 30) (hf : p_from = 0) : MetI l yJ0_indexOf_7cf53 wsJ0_indexOf_7cf53 rJ0_indexOf_7cf53 G D (tyL cI cJ cZ cH) [.ref a_this, .int p_ch, .int p_from] [] (J0_indexOf_7cf53 N_s v_s p_ch) [] := by
  refine fx_startI (cc := cJ0_indexOf_7cf53) (n := 3) (rt := .int) (plainFor_of_name (by decide)) rfl (Nat.le_of_ble_eq_true rfl) rfl ?_
  intro p e s m args below meth c A Q ls hx hb hml hown hts hA hGs hK hP hD hS hl hret
  have hl : lv_has ls 3 [(0, .ref a_this), (1, .int p_ch), (2, .int p_from)] := hl
  have f9 := hts (.fieldLink RJ0 9 "java/lang/String" "value" "[B") (by decide +kernel)
  obtain ⟨gO, gC, gV, gT, gZ⟩ := hstr A s hGs
  refine lv_aload_n hx hb dJ0_indexOf_7cf53_0 rfl (lv_at hl 0 rfl) ?_
  refine fx_callRI (As := []) (rest := []) (wr := []) ⟨hx, hb, hml, hown, hts⟩ hG hGs (k_J0_isLatin1_aae02 l G hG D cI cJ cZ cH a_this a_v N_s v_s  hstr) (cwV 0 hts gJ0_indexOf_7cf53_J0_isLatin1_aae02 rfl rfl rfl (by decide +kernel) ⟨by decide, by decide⟩) hK hP hD hS hA [] [] rfl rfl (by decide) (by decide) (by decide) (fx_recvS gO hS) rfl rfl hl.1 (Nat.le_of_ble_eq_true rfl) dJ0_indexOf_7cf53_1 (Nat.zero_le _) (Nat.zero_le _) (fun H locs hP hD hS => ?_)
  have hP : va_P D vwCl [] H := hP
  have hD : va_D A [] := hD
  refine lv_if_eq (tgt := 23) hx hb dJ0_indexOf_7cf53_4 (by decide) (fun c4 => ?_) (fun c4 => ?_)
  · exact absurd c4 (by decide)
  · refine lv_aload_n hx hb dJ0_indexOf_7cf53_7 rfl (lv_at hl 0 rfl) ?_
    refine vk_getf hx hb gV hS hown f9 (fun _ h9 => h9) dJ0_indexOf_7cf53_8 ?_
    refine lv_iload_n hx hb dJ0_indexOf_7cf53_11 rfl (lv_at hl 1 rfl) ?_
    refine lv_iload_n hx hb dJ0_indexOf_7cf53_12 rfl (lv_at hl 2 rfl) ?_
    refine lv_aload_n hx hb dJ0_indexOf_7cf53_13 rfl (lv_at hl 0 rfl) ?_
    refine fx_callRI (As := []) (rest := [.int p_from, .int p_ch, .ref a_v]) (wr := []) ⟨hx, hb, hml, hown, hts⟩ hG hGs (k_J0_length_8abf5 l G hG D cI cJ cZ cH a_this a_v N_s v_s  hstr) (cwV 0 hts gJ0_indexOf_7cf53_J0_length_8abf5 rfl rfl rfl (by decide +kernel) ⟨by decide, by decide⟩) hK hP hD hS hA [] [] rfl rfl (by decide) (by decide) (by decide) (fx_recvS gO hS) rfl rfl hl.1 (Nat.le_of_ble_eq_true rfl) dJ0_indexOf_7cf53_14 (Nat.zero_le _) (Nat.zero_le _) (fun H locs hP hD hS => ?_)
    have hP : va_P D vwCl [] H := hP
    have hD : va_D A [] := hD
    refine fx_callSI (As := [.ref a_v, .int p_ch, .int p_from, .int (J0_length_8abf5 N_s)]) (rest := []) (wr := []) ⟨hx, hb, hml, hown, hts⟩ hG hGs (k_J1_indexOf_4cfef l G hG D cI cJ cZ cH a_v N_s v_s p_ch p_from (J0_length_8abf5 N_s)  (fun A U h => (hstr A U h).2.2.2.1) hf rfl hN) (va_cwS 4 hts gJ0_indexOf_7cf53_J1_indexOf_4cfef rfl rfl rfl (by decide +kernel) ⟨by decide, by decide⟩) hK hP hD hS hA [] [] rfl rfl (by decide) (by decide) (by decide) rfl rfl hl.1 (Nat.le_of_ble_eq_true rfl) dJ0_indexOf_7cf53_17 (Nat.zero_le _) (Nat.zero_le _) (fun H locs hP hD hS => ?_)
    have hP : va_P D vwCl [] H := hP
    have hD : va_D A [] := hD
    refine lv_goto (tgt := 36) hx hb dJ0_indexOf_7cf53_20 (by decide) ?_
    exact hret _ _ _ _ _ _ dJ0_indexOf_7cf53_36 (by simp only [J0_indexOf_7cf53, if_neg c4]) rfl hP hD hS

def J0_indexOf_0f7a4 (N_s : Nat) (v_s : Nat → Int32) (p_ch : Int32) : Int32 := (J0_indexOf_7cf53 N_s v_s p_ch)
abbrev rJ0_indexOf_0f7a4 : Room := { frames := 3, cells := 0, slots := 0, locals := 70 }
set_option maxHeartbeats 8000000 in
set_option maxRecDepth 100000 in
theorem k_J0_indexOf_0f7a4 (l : Launch) (G : fxE) (hG : fxGood G) (D : va_G) (cI cJ cZ cH : ClassId) (a_this a_v : Nat) (N_s : Nat) (v_s : Nat → Int32) (p_ch : Int32) (hstr : fxStr G a_this a_v N_s v_s) (hN : N_s < 2 ^ 30) : MetI l yJ0_indexOf_0f7a4 wsJ0_indexOf_0f7a4 rJ0_indexOf_0f7a4 G D (tyL cI cJ cZ cH) [.ref a_this, .int p_ch] [] (J0_indexOf_0f7a4 N_s v_s p_ch) [] := by
  refine fx_startI (cc := cJ0_indexOf_0f7a4) (n := 2) (rt := .int) (plainFor_of_name (by decide)) rfl (Nat.le_of_ble_eq_true rfl) rfl ?_
  intro p e s m args below meth c A Q ls hx hb hml hown hts hA hGs hK hP hD hS hl hret
  have hl : lv_has ls 2 [(0, .ref a_this), (1, .int p_ch)] := hl
  obtain ⟨gO, gC, gV, gT, gZ⟩ := hstr A s hGs
  refine lv_aload_n hx hb dJ0_indexOf_0f7a4_0 rfl (lv_at hl 0 rfl) ?_
  refine lv_iload_n hx hb dJ0_indexOf_0f7a4_1 rfl (lv_at hl 1 rfl) ?_
  refine lv_iconst (v := 0) hx hb dJ0_indexOf_0f7a4_2 (by decide) ?_
  refine fx_callRI (As := [.int p_ch, .int (0 : Int32)]) (rest := []) (wr := []) ⟨hx, hb, hml, hown, hts⟩ hG hGs (k_J0_indexOf_7cf53 l G hG D cI cJ cZ cH a_this a_v N_s v_s p_ch (0 : Int32)  hstr hN rfl) (cwV 2 hts gJ0_indexOf_0f7a4_J0_indexOf_7cf53 rfl rfl rfl (by decide +kernel) ⟨by decide, by decide⟩) hK hP hD hS hA [] [] rfl rfl (by decide) (by decide) (by decide) (fx_recvS gO hS) rfl rfl hl.1 (Nat.le_of_ble_eq_true rfl) dJ0_indexOf_0f7a4_3 (Nat.zero_le _) (Nat.zero_le _) (fun H locs hP hD hS => ?_)
  have hP : va_P D vwCl [] H := hP
  have hD : va_D A [] := hD
  exact hret _ _ _ _ _ _ dJ0_indexOf_0f7a4_6 (by simp only [J0_indexOf_0f7a4]) rfl hP hD hS
