/-! the frame of a contract: what holds over some cells of a world holds over the whole of it, the others unchanged; worlds in two blocks -/
theorem fr_at {ws w : va_W} {is : List Nat} (hs : is.map (fun i => ws[i]?) = w.map some) (k : Nat) (q : Nat × va_E) (hq : w[k]? = some q) : ∃ i, is[k]? = some i ∧ ws[i]? = some q := by
  have h1 : (is.map (fun i => ws[i]?))[k]? = some (some q) := by rw [hs, List.getElem?_map, hq]; rfl
  rw [List.getElem?_map] at h1
  cases hi : is[k]? with
  | none => rw [hi] at h1; cases h1
  | some i => rw [hi] at h1; exact ⟨i, rfl, Option.some.inj h1⟩
theorem fr_A {wa wc : va_W} {isC : List Nat} (hC : isC.map (fun i => wa[i]?) = wc.map some) {sz q : Nat} (h : va_A wc sz q) : va_A wa sz q := by
  rcases h with ⟨k, e, h⟩ | h
  · obtain ⟨i, -, h2⟩ := fr_at hC k (q, e) h
    exact Or.inl ⟨i, e, h2⟩
  · exact Or.inr h
theorem fr_pre {G : fxE} {D : va_G} {ty : List (ClassId × FieldType)} {wa wc : va_W} {isC : List Nat} (hG : fxGood G) (hC : isC.map (fun i => wa[i]?) = wc.map some) (hnC : va_nd isC = true) {sz : Nat} {U : State} (h : fxPre G D ty wa sz U) : fxPre G D ty wc sz U := by
  obtain ⟨q1, qP, qK, qD, qG⟩ := h
  exact ⟨q1, qP.sub isC (fx_fm _ _ _ hC), qK, qD.sub isC hnC hC, hG.1 (va_A wa sz) (va_A wc sz) U U U.heap [] qG va_S.rf (fun q hq => fr_A hC hq) rfl (State.WarmedH.refl U)⟩
theorem fr_post {G : fxE} {D : va_G} {ty : List (ClassId × FieldType)} {wa wc w1 wz : va_W} {isC : List Nat} (hC : isC.map (fun i => wa[i]?) = wc.map some) (pm : List (Bool × Nat)) (hpm : pm.map (fun x => bif x.1 then wa[x.2]? else w1[x.2]?) = wz.map some) (hno : ∀ x ∈ pm, x.1 = true → x.2 ∉ isC) (had : wz.map (fun x => x.1) = wa.map (fun x => x.1))
    {sz : Nat} {st t : State} (h : fxPre G D ty wa sz st) (hB : fxB D ty (va_A wc sz) w1 t) (hF : va_F (va_A wc sz) st t) : fxB D ty (va_A wa sz) wz t := by
  obtain ⟨q1, qP, qK, qD, qG⟩ := h
  obtain ⟨hP1, hK1, hD1⟩ := hB
  have adr : ∀ (k : Nat) (q : Nat × va_E), wz[k]? = some q → ∃ r : Nat × va_E, wa[k]? = some r ∧ r.1 = q.1 := by
    intro k q hq
    have h1 : (wz.map (fun x => x.1))[k]? = some q.1 := by rw [List.getElem?_map, hq]; rfl
    rw [had, List.getElem?_map] at h1
    cases hi : wa[k]? with
    | none => rw [hi] at h1; cases h1
    | some r => rw [hi] at h1; exact ⟨r, rfl, Option.some.inj h1⟩
  refine ⟨?_, hK1, fun i j x y hi hj hxy => ?_, fun k q hk => ?_⟩
  · intro k q hq
    have h1 : (pm.map (fun x => bif x.1 then wa[x.2]? else w1[x.2]?))[k]? = some (some q) := by rw [hpm, List.getElem?_map, hq]; rfl
    rw [List.getElem?_map] at h1
    cases hi : pm[k]? with
    | none => rw [hi] at h1; cases h1
    | some x =>
      rw [hi] at h1
      have h2 : (bif x.1 then wa[x.2]? else w1[x.2]?) = some q := Option.some.inj h1
      obtain ⟨xb, xi⟩ := x
      cases xb with
      | false => exact hP1 xi q h2
      | true =>
        have h2 : wa[xi]? = some q := h2
        have hl := (qP xi q h2).lt
        refine (qP xi q h2).kept (hF.2 q.1 hl (fun h => ?_))
        rcases h with ⟨k2, e, h⟩ | h
        · obtain ⟨j, h3, h4⟩ := fr_at hC k2 (q.1, e) h
          have hij := qD.1 xi j q (q.1, e) h2 h4 rfl
          subst hij
          exact hno _ (List.mem_of_getElem? hi) rfl (List.mem_of_getElem? h3)
        · rw [q1] at hl
          exact absurd hl (Nat.not_lt.mpr h)
  · obtain ⟨a, h1, h2⟩ := adr i x hi
    obtain ⟨b, h3, h4⟩ := adr j y hj
    exact qD.1 i j a b h1 h3 (by rw [h2, h4]; exact hxy)
  · obtain ⟨a, h1, h2⟩ := adr k q hk
    rw [← h2]
    exact va_A.in h1
theorem fx_frI {l : Launch} {y : MethodName} {ws : List Cond} {rm : Room} {G : fxE} {D : va_G} {ty : List (ClassId × FieldType)} {av : List Value} {wa wc w1 wz : va_W} {rv r9 : Int32} (hG : fxGood G) (hM : MetI l y ws rm G D ty av wc rv w1) (isC : List Nat) (hC : isC.map (fun i => wa[i]?) = wc.map some) (hnC : va_nd isC = true)
    (pm : List (Bool × Nat)) (hpm : pm.map (fun x => bif x.1 then wa[x.2]? else w1[x.2]?) = wz.map some) (hno : ∀ x ∈ pm, x.1 = true → x.2 ∉ isC) (had : wz.map (fun x => x.1) = wa.map (fun x => x.1)) (hr9 : rv = r9) : MetI l y ws rm G D ty av wa r9 wz := by
  subst hr9
  intro sz
  refine MetFree.mono (hM sz) ?_ (fun _ _ _ _ _ _ => trivial) ?_
  · intro a s h
    exact ⟨h.1, fr_pre hG hC hnC h.2⟩
  intro a s o t hp hq
  obtain ⟨⟨⟨r, u, h1, h2, h3⟩, h4⟩, L, h5, h6⟩ := hq
  exact ⟨⟨⟨r, u, h1, h2, fr_post hC pm hpm hno had hp.2 h3 h4⟩, h4.1, fun q hq hn => h4.2 q hq (fun h => hn (fr_A hC h))⟩, L, h5, fun q hq => fr_A hC (h6 q hq)⟩
theorem fx_frL {l : Launch} {y : MethodName} {ws : List Cond} {rm : Room} {G : fxE} {D : va_G} {ty : List (ClassId × FieldType)} {av : List Value} {wa wc w1 wz : va_W} {rv r9 : Int64} (hG : fxGood G) (hM : MetL l y ws rm G D ty av wc rv w1) (isC : List Nat) (hC : isC.map (fun i => wa[i]?) = wc.map some) (hnC : va_nd isC = true)
    (pm : List (Bool × Nat)) (hpm : pm.map (fun x => bif x.1 then wa[x.2]? else w1[x.2]?) = wz.map some) (hno : ∀ x ∈ pm, x.1 = true → x.2 ∉ isC) (had : wz.map (fun x => x.1) = wa.map (fun x => x.1)) (hr9 : rv = r9) : MetL l y ws rm G D ty av wa r9 wz := by
  subst hr9
  intro sz
  refine MetFree.mono (hM sz) ?_ (fun _ _ _ _ _ _ => trivial) ?_
  · intro a s h
    exact ⟨h.1, fr_pre hG hC hnC h.2⟩
  intro a s o t hp hq
  obtain ⟨⟨⟨r, u, h1, h2, h3⟩, h4⟩, L, h5, h6⟩ := hq
  exact ⟨⟨⟨r, u, h1, h2, fr_post hC pm hpm hno had hp.2 h3 h4⟩, h4.1, fun q hq hn => h4.2 q hq (fun h => hn (fr_A hC h))⟩, L, h5, fun q hq => fr_A hC (h6 q hq)⟩
theorem bl_l {wa wb : va_W} {k : Nat} {q : Nat × va_E} (h : wa[k]? = some q) : (wa ++ wb)[k]? = some q := by
  have hk : k < wa.length := (List.getElem?_eq_some_iff.mp h).1
  rw [List.getElem?_append_left hk]
  exact h
theorem bl_r {wa wb : va_W} {k : Nat} {q : Nat × va_E} (h : wb[k]? = some q) : (wa ++ wb)[wa.length + k]? = some q := by
  rw [List.getElem?_append_right (Nat.le_add_right _ _), Nat.add_sub_cancel_left]
  exact h
theorem bl_ap {A : Nat → Prop} {wa wb : va_W} (h : va_D A (wa ++ wb)) {i j : Nat} {x y : Nat × va_E} (hi : wa[i]? = some x) (hj : wb[j]? = some y) (e : x.1 = y.1) : False := by
  have h1 := h.1 _ _ x y (bl_l hi) (bl_r hj) e
  have hk : i < wa.length := (List.getElem?_eq_some_iff.mp hi).1
  omega
theorem bl_D2 {A : Nat → Prop} {wa wb : va_W} (h : va_D A (wa ++ wb)) : va_D A wb :=
  ⟨fun i j x y hi hj e => by
    have h1 := h.1 _ _ x y (bl_r hi) (bl_r hj) e
    omega, fun k q hk => h.2 _ q (bl_r hk)⟩
theorem bl_D1 {A : Nat → Prop} {wa wb : va_W} (h : va_D A (wa ++ wb)) : va_D A wa := ⟨fun i j x y hi hj e => h.1 i j x y (bl_l hi) (bl_l hj) e, fun k q hk => h.2 k q (bl_l hk)⟩
theorem bl_F {A : Nat → Prop} {wa wb : va_W} {H0 H : Heap} {locs : List Loc} (hD : va_D A (wa ++ wb)) (hS : va_S A H0 H locs) (hA : ∀ q : Nat, H0.size ≤ q → A q) (q : Nat) (h : va_A wa H.size q) : A q := by
  rcases h with ⟨k, e, h⟩ | h
  · exact hD.2 k (q, e) (bl_l h)
  · exact hA q (Nat.le_trans hS.1 h)
theorem bl_join {A : Nat → Prop} {D : va_G} {cl : List vw_C} {wa wb wz : va_W} {H H1 : Heap} (hP : va_P D cl (wa ++ wb) H) (hD : va_D A (wa ++ wb)) (hk : ∀ q : Nat, q < H.size → ¬ va_A wa H.size q → H1[q]? = H[q]?) (hF : ∀ q, va_A wa H.size q → A q) (hP1 : va_P D cl wz H1) (hD1 : va_D (va_A wa H.size) wz) : va_P D cl (wb ++ wz) H1 ∧ va_D A (wb ++ wz) := by
  have apart : ∀ (k : Nat) (q : Nat × va_E), wb[k]? = some q → q.1 < H.size ∧ ¬ va_A wa H.size q.1 := by
    intro k q hq
    have hl := (hP _ q (bl_r hq)).lt
    refine ⟨hl, fun h => ?_⟩
    rcases h with ⟨k2, e, h⟩ | h
    · exact bl_ap hD h hq rfl
    · exact absurd hl (Nat.not_lt.mpr h)
  refine ⟨va_P.app (fun k q hq => ?_) hP1, va_D.app (bl_D2 hD) (hD1.weaken (fun k q _ h => hF q.1 h)) (fun i j x y hx hy hxy => ?_)⟩
  · obtain ⟨g1, g2⟩ := apart k q hq
    exact (hP _ q (bl_r hq)).kept (hk q.1 g1 g2)
  · exact (apart i x hx).2 (by rw [hxy]; exact hD1.2 j y hy)
section Calls
variable {p : Program} {l : Launch} {e : Env} {R : Room} {s : State} {m : MethodId} {args : Array Value} {below : List Frame} {meth : Method} {c : Code} {H : Heap} {locs : List Loc} {Q : State → Prop} {cells slots : Nat}
variable {y : MethodName} {bytes cc : ByteArray} {maxL nL n index : Nat} {ret : Option FieldType} {wsC : List Cond} {rm : Room} {Ts : List Cond} {own C : String} {b ci : Nat} {As rest st fs : List Value} {D : va_G} {ty : List (ClassId × FieldType)} {wa wb wz : va_W} {A : Nat → Prop} {pc : Nat} {ls : Array Slot} {T : u_T} {N : Nat} {G : fxE}
set_option maxHeartbeats 4000000 in
theorem fx_blkI {rv : Int32} (S : CallFix p m c cc nL s args Ts own) (hG : fxGood G) (hGs : G A s) (hM : MetI l y wsC rm G D ty (.ref b :: As) wa rv wz) (cw : CallW R s args own C index y bytes maxL ret wsC rm 0 0 n)
    (hK : va_K D vwCl ty s) (hP : va_P D vwCl (wa ++ wb) H) (hD : va_D A (wa ++ wb)) (hS : va_S A s.heap H locs) (hA : ∀ q : Nat, s.heap.size ≤ q → A q)
    (hb0 : wa[0]? = some (b, .inr (ci, fs))) (hci : vwCl[ci]? = some (C, T, N))
    (hst : st = As.reverse ++ .ref b :: rest) (hlen : As.length = n) (hsz : ls.size = nL) (hw : (rest.map fun v => v.category).sum ≤ 8) (hdg : decode cc pc = .ok (.invokevirtual index, 3)) (hce : cells ≤ R.cells) (hsl : slots ≤ R.slots)
    (kk : ∀ (H1 : Heap) (locs1 : List Loc), va_P D vwCl (wb ++ wz) H1 → va_D A (wb ++ wz) → va_S A s.heap H1 locs1 → W p l e R s m args below meth c H1 locs1 cells slots Q (F0 m (pc + 3) ls (.int rv :: rest))) :
    W p l e R s m args below meth c H locs cells slots Q (F0 m pc ls st) := by
  have hF := bl_F hD hS hA
  have hPc : va_P D vwCl wa H := fun k q hk => hP k q (bl_l hk)
  have hDc : va_D (fun _ => True) wa := (bl_D1 hD).weaken (fun _ _ _ _ => trivial)
  refine va_calli (va_runV (As := As) (rest := rest) S (hM H.size) cw ⟨fx_blind hG _ _ _ _ _, va_recv hK hP (ci := ci) (q0 := 0) hci (bl_l hb0), fun U hU hW => ⟨rfl, by rw [hU], by rw [hU]; exact hPc, va_K.moved hW.alike hK, hDc, hG.1 A _ s U H locs hGs hS hF hU hW⟩⟩ rfl hlen hsz hst (lv_room hw) hdg ⟨hce, hsl⟩) hS (fun q _ h => hF q h) hF ?_
  intro r u t H1 locs1 ht hvm hr hB hz hk hS1
  obtain ⟨hP1, hK1, hD1⟩ := hB
  rw [ht] at hP1
  subst hr
  obtain ⟨hP2, hD2⟩ := bl_join hP hD hk hF hP1 hD1
  exact kk H1 locs1 hP2 hD2 hS1
set_option maxHeartbeats 4000000 in
theorem fx_blkL {rv : Int64} (S : CallFix p m c cc nL s args Ts own) (hG : fxGood G) (hGs : G A s) (hM : MetL l y wsC rm G D ty (.ref b :: As) wa rv wz) (cw : CallW R s args own C index y bytes maxL ret wsC rm 0 0 n)
    (hK : va_K D vwCl ty s) (hP : va_P D vwCl (wa ++ wb) H) (hD : va_D A (wa ++ wb)) (hS : va_S A s.heap H locs) (hA : ∀ q : Nat, s.heap.size ≤ q → A q)
    (hb0 : wa[0]? = some (b, .inr (ci, fs))) (hci : vwCl[ci]? = some (C, T, N))
    (hst : st = As.reverse ++ .ref b :: rest) (hlen : As.length = n) (hsz : ls.size = nL) (hw : (rest.map fun v => v.category).sum ≤ 8) (hdg : decode cc pc = .ok (.invokevirtual index, 3)) (hce : cells ≤ R.cells) (hsl : slots ≤ R.slots)
    (kk : ∀ (H1 : Heap) (locs1 : List Loc), va_P D vwCl (wb ++ wz) H1 → va_D A (wb ++ wz) → va_S A s.heap H1 locs1 → W p l e R s m args below meth c H1 locs1 cells slots Q (F0 m (pc + 3) ls (.long rv :: rest))) :
    W p l e R s m args below meth c H locs cells slots Q (F0 m pc ls st) := by
  have hF := bl_F hD hS hA
  have hPc : va_P D vwCl wa H := fun k q hk => hP k q (bl_l hk)
  have hDc : va_D (fun _ => True) wa := (bl_D1 hD).weaken (fun _ _ _ _ => trivial)
  refine va_calll (va_runV (As := As) (rest := rest) S (hM H.size) cw ⟨fx_blind hG _ _ _ _ _, va_recv hK hP (ci := ci) (q0 := 0) hci (bl_l hb0), fun U hU hW => ⟨rfl, by rw [hU], by rw [hU]; exact hPc, va_K.moved hW.alike hK, hDc, hG.1 A _ s U H locs hGs hS hF hU hW⟩⟩ rfl hlen hsz hst (lv_room hw) hdg ⟨hce, hsl⟩) hS (fun q _ h => hF q h) hF ?_
  intro r u t H1 locs1 ht hvm hr hB hz hk hS1
  obtain ⟨hP1, hK1, hD1⟩ := hB
  rw [ht] at hP1
  subst hr
  obtain ⟨hP2, hD2⟩ := bl_join hP hD hk hF hP1 hD1
  exact kk H1 locs1 hP2 hD2 hS1
end Calls
