/-! making objects -/
def MetN (l : Launch) (y : MethodName) (ws : List Cond) (rm : Room) (G : fxE) (D : va_G) (ty : List (ClassId × FieldType)) (av : List Value) (w0 : va_W) (w1 : (Nat → Nat) → va_W) (mc ms : Nat) : Prop :=
  ∀ sz : Nat, Met l y ws rm (va_Pc av (fxPre G D ty w0 sz)) (va_Qv (fun (_ : Nat → Nat) => True) (fun u t => fxB D ty (va_A w0 sz) (w1 u) t) (va_A w0 sz)) mc ms (va_A w0 sz)
set_option maxHeartbeats 4000000 in
theorem fx_startN {l : Launch} {y : MethodName} {ws ws' : List Cond} {rm : Room} {G : fxE} {D : va_G} {ty : List (ClassId × FieldType)} {av : List Value} {w0 : va_W} {w1 : (Nat → Nat) → va_W} {mc ms : Nat} {cc : ByteArray} {n : Nat}
    (hy : plainFor y = true) (hw : ws = Cond.code y cc n none :: ws') (hn : (lg_sl av).length ≤ n) (hyn : y.name = "<init>")
    (body : ∀ (p : Program) (e : Env) (s : State) (m : MethodId) (args : Array Value) (below : List Frame) (meth : Method) (c : Code) (A : Nat → Prop) (Q : State → Prop) (ls : Array Slot),
      p.tables.exec = Jvm.exec → c.code = cc → c.maxLocals = n → s.vm.findClass y.cls = some m.cls → (∀ w ∈ ws, w.before args s = true) → (∀ q : Nat, s.heap.size ≤ q → A q) → G A s → va_K D vwCl ty s → va_P D vwCl w0 s.heap → va_D A w0 → va_S A s.heap s.heap [] → lv_has ls n (lv_args 0 av) → meth.name = "<init>" →
      (∀ (H : Heap) (locs : List Loc) (pc : Nat) (ls : Array Slot) (u : Nat → Nat) (w : va_W), decode cc pc = .ok (.return_, 1) → w = w1 u → va_P D vwCl w H → va_D A w → va_S A s.heap H locs → W p l e rm s m args below meth c H locs mc ms Q (F0 m pc ls [])) →
      W p l e rm s m args below meth c s.heap [] 0 0 Q (F0 m 0 ls [])) : MetN l y ws rm G D ty av w0 w1 mc ms := by
  intro sz
  refine fx_ofW (cc := cc) (maxL := n) (ret := none) hy hw ?_
  intro p e s m args below meth c s₁ B hml hv
  obtain ⟨rfl, hsz, hP, hK, hD0, hGs⟩ := hv
  subst hsz
  have hD := hD0.self (sz := s.heap.size)
  have hts := atoms_spec (ws := ws) B.pre
  have hl := lv_entry av (n := n) hn
  have hin : meth.name = "<init>" := (name_of_methodNamed B.named B.method).1.trans hyn
  rw [lg_entry_eq]
  refine body p e s m _ below meth c (va_A w0 s.heap.size) _ _ B.exec B.bytes hml (findClass_of_methodNamed B.named) hts (fun q h => Or.inr h) hGs hK hP hD va_S.rf hl hin ?_
  intro H locs pc ls u w hd hw hP' hD' hS
  subst hw
  exact W.vret B.exec B.bytes B.returns (fun t ht hW => ⟨⟨u, rfl, trivial, by rw [ht]; exact hP', va_K.moved hW.alike hK, hD'⟩, hS.F ht⟩) hS.2.2 hd B.notSynchronized
section Calls
variable {p : Program} {l : Launch} {e : Env} {R : Room} {s : State} {m : MethodId} {args : Array Value} {below : List Frame} {meth : Method} {c : Code} {H : Heap} {locs : List Loc} {Q : State → Prop} {cells slots mc ms : Nat}
variable {y : MethodName} {bytes cc : ByteArray} {maxL nL n index : Nat} {wsC : List Cond} {rm : Room} {Ts : List Cond} {own host : String} {b : Nat} {As rest st : List Value} {D : va_G} {ty : List (ClassId × FieldType)} {wc ws wr : va_W} {w1 : (Nat → Nat) → va_W} {A : Nat → Prop} {pc : Nat} {ls : Array Slot} {G : fxE}
set_option maxHeartbeats 4000000 in
theorem fx_callIN (S : CallFix p m c cc nL s args Ts own) (hG : fxGood G) (hGs : G A s) (hM : MetN l y wsC rm G D ty (.ref b :: As) wc w1 mc ms) (cw : va_CN R s args own index y host bytes maxL none wsC rm mc ms n ∧ y.name = "<init>" ∧ (Cond.instanceMethod y).before args s = true)
    (hK : va_K D vwCl ty s) (hP : va_P D vwCl ws H) (hD : va_D A ws) (hS : va_S A s.heap H locs) (hA : ∀ q : Nat, s.heap.size ≤ q → A q)
    (isC isR : List Nat) (hC : isC.map (fun i => ws[i]?) = wc.map some) (hR : isR.map (fun i => ws[i]?) = wr.map some) (hnC : va_nd isC = true) (hn : va_nd isR = true) (hdis : ∀ i ∈ isR, i ∉ isC)
    (hst : st = As.reverse ++ .ref b :: rest) (hlen : As.length = n) (hsz : ls.size = nL) (hw : (rest.map fun v => v.category).sum ≤ 8) (hdg : decode cc pc = .ok (.invokespecial index, 3)) (hce : cells + mc ≤ R.cells) (hsl : slots + ms ≤ R.slots)
    (kk : ∀ (u : Nat → Nat) (H1 : Heap) (locs1 : List Loc), va_P D vwCl (wr ++ w1 u) H1 → va_D A (wr ++ w1 u) → va_S A s.heap H1 locs1 → W p l e R s m args below meth c H1 locs1 (cells + mc) (slots + ms) Q (F0 m (pc + 3) ls rest)) :
    W p l e R s m args below meth c H locs cells slots Q (F0 m pc ls st) := by
  have hF := va_free (wc := wc) hD hS hA isC hC
  have hPc : va_P D vwCl wc H := hP.sub isC (fx_fm _ _ _ hC)
  have hDc : va_D (fun _ => True) wc := (hD.sub isC hnC hC).weaken (fun _ _ _ _ => trivial)
  refine va_callv (va_runIN (As := As) (rest := rest) S (hM H.size) cw ⟨fx_blind hG _ _ _ _ _, fun U hU hW => ⟨rfl, by rw [hU], by rw [hU]; exact hPc, va_K.moved hW.alike hK, hDc, hG.1 A _ s U H locs hGs hS hF hU hW⟩⟩ rfl hlen hsz hst (lv_room hw) hdg ⟨hce, hsl⟩) hS (fun q _ h => hF q h) hF ?_
  intro u t H1 locs1 ht hvm hr hB hz hk hS1
  obtain ⟨hP1, hK1, hD1⟩ := hB
  rw [ht] at hP1
  obtain ⟨hP2, hD2⟩ := va_join (wr := wr) (w1 := w1 u) hP hD isC isR hC hR hn hdis hk hF hP1 hD1
  exact kk u H1 locs1 hP2 hD2 hS1
set_option maxHeartbeats 4000000 in
theorem fx_callII (S : CallFix p m c cc nL s args Ts own) (hG : fxGood G) (hGs : G A s) (hM : MetN l y wsC rm G D ty (.ref b :: As) wc w1 mc ms) (cw : CallB R s args own index y bytes maxL none wsC rm mc ms n ∧ y.name = "<init>" ∧ (Cond.instanceMethod y).before args s = true)
    (hK : va_K D vwCl ty s) (hP : va_P D vwCl ws H) (hD : va_D A ws) (hS : va_S A s.heap H locs) (hA : ∀ q : Nat, s.heap.size ≤ q → A q)
    (isC isR : List Nat) (hC : isC.map (fun i => ws[i]?) = wc.map some) (hR : isR.map (fun i => ws[i]?) = wr.map some) (hnC : va_nd isC = true) (hn : va_nd isR = true) (hdis : ∀ i ∈ isR, i ∉ isC)
    (hst : st = As.reverse ++ .ref b :: rest) (hlen : As.length = n) (hsz : ls.size = nL) (hw : (rest.map fun v => v.category).sum ≤ 8) (hdg : decode cc pc = .ok (.invokespecial index, 3)) (hce : cells + mc ≤ R.cells) (hsl : slots + ms ≤ R.slots)
    (kk : ∀ (u : Nat → Nat) (H1 : Heap) (locs1 : List Loc), va_P D vwCl (wr ++ w1 u) H1 → va_D A (wr ++ w1 u) → va_S A s.heap H1 locs1 → W p l e R s m args below meth c H1 locs1 (cells + mc) (slots + ms) Q (F0 m (pc + 3) ls rest)) :
    W p l e R s m args below meth c H locs cells slots Q (F0 m pc ls st) := by
  have hF := va_free (wc := wc) hD hS hA isC hC
  have hPc : va_P D vwCl wc H := hP.sub isC (fx_fm _ _ _ hC)
  have hDc : va_D (fun _ => True) wc := (hD.sub isC hnC hC).weaken (fun _ _ _ _ => trivial)
  refine va_callv (va_runI (As := As) (rest := rest) S (hM H.size) cw ⟨fx_blind hG _ _ _ _ _, fun U hU hW => ⟨rfl, by rw [hU], by rw [hU]; exact hPc, va_K.moved hW.alike hK, hDc, hG.1 A _ s U H locs hGs hS hF hU hW⟩⟩ rfl hlen hsz hst (lv_room hw) hdg ⟨hce, hsl⟩) hS (fun q _ h => hF q h) hF ?_
  intro u t H1 locs1 ht hvm hr hB hz hk hS1
  obtain ⟨hP1, hK1, hD1⟩ := hB
  rw [ht] at hP1
  obtain ⟨hP2, hD2⟩ := va_join (wr := wr) (w1 := w1 u) hP hD isC isR hC hR hn hdis hk hF hP1 hD1
  exact kk u H1 locs1 hP2 hD2 hS1
end Calls
theorem fx_ra {U : State} {a b : ClassId} {ty : FieldType} (ha : va_RA U a ty) (hb : va_RA U b ty) : a = b := by
  cases ty with
  | object C =>
    obtain ⟨_, _, _, _, _, h1⟩ := ha
    obtain ⟨_, _, _, _, _, h2⟩ := hb
    exact Option.some.inj (h1.symm.trans h2)
  | _ => exact Option.some.inj (Eq.trans (Eq.symm ha) hb)
section Rows
variable {p : Program} {l : Launch} {e : Env} {R : Room} {s : State} {m : MethodId} {args : Array Value} {below : List Frame} {meth : Method} {c : Code} {H : Heap} {locs : List Loc} {Q : State → Prop} {cells slots : Nat}
variable {cc : ByteArray} {pc : Nat} {ls : Array Slot} {rest : List Value} {D : va_G} {cl : List vw_C} {tys : List (ClassId × FieldType)} {ws : va_W} {A : Nat → Prop} {H0 : Heap}
theorem fx_newa (hexec : p.tables.exec = Jvm.exec) (hb : c.code = cc) {atype : ArrayType} (harr : (Cond.arrayClass (newarray.typeOf atype)).before args s = true) {ty : FieldType} (hty : newarray.typeOf atype = ty) (hK : va_K D cl tys s) (hP : va_P D cl ws H) (hD : va_D A ws) (hS : va_S A H0 H locs) (hA : ∀ q, H0.size ≤ q → A q)
    (t0 : Nat) {cT : ClassId} (ht : tys[t0]? = some (cT, ty)) {n : Int32} {N' : Nat} {a0 : vp_A} (hx0 : a0.1 = N') (ha : ∀ cA : ClassId, vp_cell cA a0 = arrV cA N' (fun _ => defaultValue ty)) (hn : ¬ n < 0) (hN : n.toNatClampNeg = N') (hbytes : N' * componentBytes ty ≤ 536870912) (hcells : cells + 1 ≤ R.cells) (hslots : slots + N' ≤ R.slots) (hdg : decode cc pc = .ok (.newarray atype, 2))
    (kk : ∀ (q : Nat) (H1 : Heap), va_P D cl (ws ++ [(q, .inl (cT, a0))]) H1 → va_D A (ws ++ [(q, .inl (cT, a0))]) → va_S A H0 H1 locs → W p l e R s m args below meth c H1 locs (cells + 1) (slots + N') Q (F0 m (pc + 2) ls (.ref q :: rest))) : W p l e R s m args below meth c H locs cells slots Q (F0 m pc ls (.int n :: rest)) := by
  refine va_newa hexec hb harr hty hK hP hD hS hA ha hn hN hbytes hcells hslots hdg ?_
  intro q cA H1 hK1 hP1 hD1 hS1
  have e1 := (hK1.2 tys.length (cA, ty) (by rw [List.getElem?_append_right (Nat.le_refl _), Nat.sub_self]; rfl)).2
  have e2 := (hK.2 t0 (cT, ty) ht).2
  have e3 : cA = cT := fx_ra e1 e2
  subst e3
  exact kk q H1 hP1 hD1 hS1
theorem fx_newq (hexec : p.tables.exec = Jvm.exec) (hb : c.code = cc) {own C : String} {index : Nat} (hown : s.vm.findClass own = some m.cls) (hclink : (Cond.classLink own index C).before args s = true) (hover : va_AO C s) (hK : va_K D cl tys s) (hP : va_P D cl ws H) (hD : va_D A ws) (hS : va_S A H0 H locs) (hA : ∀ q, H0.size ≤ q → A q)
    (t0 : Nat) {cT : ClassId} (ht : tys[t0]? = some (cT, .object C)) {n : Int32} {N' : Nat} (hn : ¬ n < 0) (hN : n.toNatClampNeg = N') (hbytes : N' * 4 ≤ 536870912) (hcells : cells + 1 ≤ R.cells) (hslots : slots + N' ≤ R.slots) (hdg : decode cc pc = .ok (.anewarray index, 3))
    (kk : ∀ (q : Nat) (H1 : Heap), va_P D cl (ws ++ [(q, .inl (cT, N', .inr (.inr (.inr (.inr (fun _ => none))))))]) H1 → va_D A (ws ++ [(q, .inl (cT, N', .inr (.inr (.inr (.inr (fun _ => none))))))]) → va_S A H0 H1 locs → W p l e R s m args below meth c H1 locs (cells + 1) (slots + N') Q (F0 m (pc + 3) ls (.ref q :: rest))) : W p l e R s m args below meth c H locs cells slots Q (F0 m pc ls (.int n :: rest)) := by
  refine va_newq hexec hb hown hclink hover hK hP hD hS hA hn hN hbytes hcells hslots hdg ?_
  intro q cA H1 hK1 hP1 hD1 hS1
  have e1 := (hK1.2 tys.length (cA, .object C) (by rw [List.getElem?_append_right (Nat.le_refl _), Nat.sub_self]; rfl)).2
  have e2 := (hK.2 t0 (cT, .object C) ht).2
  have e3 : cA = cT := fx_ra e1 e2
  subst e3
  exact kk q H1 hP1 hD1 hS1
end Rows

abbrev rX1_init : Room := { frames := 1, cells := 2, slots := 20, locals := 24 }
theorem oi_X1_init : Cond.code objectInit ⟨#[0xb1]⟩ 1 none ∈ wsX1_init := List.mem_of_getElem? (i := 3) rfl
theorem n_X1_init_X1 : ∀ w ∈ wsX10, w ∈ wsX1_init := by decide +kernel
set_option maxHeartbeats 2000000 in
set_option maxRecDepth 100000 in
theorem k_X1_init (l : Launch) (G : fxE) (hG : fxGood G) (D : va_G) (cI cJ cZ cH : ClassId) (a_this : Nat) : MetN l yX1_init wsX1_init rX1_init G D (tyL cI cJ cZ cH) [.ref a_this] [(a_this, .inr (1, [.null, .null, .int (0 : Int32)]))] (fun u => [(a_this, .inr (1, [.ref (u 0), .ref (u 1), .int (0 : Int32)])), ((u 0), .inl (cI, 10, .inl (fun _ => 0))), ((u 1), .inl (cI, 10, .inl (fun _ => 0)))]) 2 20 := by
  refine fx_startN (cc := cX1_init) (n := 1) (plainFor_of_name (by decide)) rfl (Nat.le_of_ble_eq_true rfl) rfl ?_
  intro p e s m args below meth c A Q ls hx hb hml hown hts hA hGs hK hP hD hS hl hin hret
  have hl : lv_has ls 1 [(0, .ref a_this)] := hl
  have iX1 := n_X1_init_X1
  have m3 := hts (.methodLink RX1 3 objectInit) (by decide +kernel)
  have moi := hts (.instanceMethod objectInit) (by decide +kernel)
  have acI := hts (.arrayClass .int) (by decide +kernel)
  have f9 := hts (.fieldLink RX1 9 "FrozeFirst$Needles" "often" "[I") (by decide +kernel)
  have f15 := hts (.fieldLink RX1 15 "FrozeFirst$Needles" "times" "[I") (by decide +kernel)
  refine lv_aload_n hx hb dX1_init_0 rfl (lv_at hl 0 rfl) ?_
  refine W.objInit hx hb hown m3 moi (hts _ oi_X1_init) rfl (by rw [hml]; exact hl.1) rfl dX1_init_1 (Nat.le_of_ble_eq_true rfl) (Nat.le_of_ble_eq_true rfl) ?_
  refine W.eq (g2 := F0 m 4 ls []) rfl ?_
  refine lv_aload_n hx hb dX1_init_4 rfl (lv_at hl 0 rfl) ?_
  refine lv_bipush (v := 10) hx hb dX1_init_5 (by decide) ?_
  refine fx_newa (atype := .int) (ty := .int) (cT := cI) (a0 := (10, .inl (fun _ => 0))) hx hb acI rfl hK hP hD hS hA 0 rfl (by rfl) (fun _ => rfl) (by decide) (N' := 10) (by decide) (by decide) (by decide) (by decide) dX1_init_7 (fun q7 H hP hD hS => ?_)
  have hP : va_P D vwCl [(a_this, .inr (1, [.null, .null, .int (0 : Int32)])), (q7, .inl (cI, 10, .inl (fun _ => 0)))] H := hP
  have hD : va_D A [(a_this, .inr (1, [.null, .null, .int (0 : Int32)])), (q7, .inl (cI, 10, .inl (fun _ => 0)))] := hD
  refine W.widen (k := 1) (n := 10) (by decide) (by decide) ?_
  refine va_putF (D := D) (ci := 1) (v := .ref q7) (ty := tyX1 0) (C := RX1) (T := TX1) (N := 3) hx hb hts iX1 tyX1 tyX1_ok nmX1 hown hK hP hD hS 0 rfl rfl 0 (by decide) f9 (fun _ h9 => h9) rfl hin rfl (tyX1_ok 0 (by decide)) rfl rfl (Nat.le_of_ble_eq_true rfl) dX1_init_9 (fun H locs hP hD hS => ?_)
  have hP : va_P D vwCl [(a_this, .inr (1, [.ref q7, .null, .int (0 : Int32)])), (q7, .inl (cI, 10, .inl (fun _ => 0)))] H := hP
  have hD : va_D A [(a_this, .inr (1, [.ref q7, .null, .int (0 : Int32)])), (q7, .inl (cI, 10, .inl (fun _ => 0)))] := hD
  refine lv_aload_n hx hb dX1_init_12 rfl (lv_at hl 0 rfl) ?_
  refine lv_bipush (v := 10) hx hb dX1_init_13 (by decide) ?_
  refine fx_newa (atype := .int) (ty := .int) (cT := cI) (a0 := (10, .inl (fun _ => 0))) hx hb acI rfl hK hP hD hS hA 0 rfl (by rfl) (fun _ => rfl) (by decide) (N' := 10) (by decide) (by decide) (by decide) (by decide) dX1_init_15 (fun q15 H hP hD hS => ?_)
  have hP : va_P D vwCl [(a_this, .inr (1, [.ref q7, .null, .int (0 : Int32)])), (q7, .inl (cI, 10, .inl (fun _ => 0))), (q15, .inl (cI, 10, .inl (fun _ => 0)))] H := hP
  have hD : va_D A [(a_this, .inr (1, [.ref q7, .null, .int (0 : Int32)])), (q7, .inl (cI, 10, .inl (fun _ => 0))), (q15, .inl (cI, 10, .inl (fun _ => 0)))] := hD
  refine W.widen (k := 2) (n := 20) (by decide) (by decide) ?_
  refine va_putF (D := D) (ci := 1) (v := .ref q15) (ty := tyX1 1) (C := RX1) (T := TX1) (N := 3) hx hb hts iX1 tyX1 tyX1_ok nmX1 hown hK hP hD hS 0 rfl rfl 1 (by decide) f15 (fun _ h9 => h9) rfl hin rfl (tyX1_ok 1 (by decide)) rfl rfl (Nat.le_of_ble_eq_true rfl) dX1_init_17 (fun H locs hP hD hS => ?_)
  have hP : va_P D vwCl [(a_this, .inr (1, [.ref q7, .ref q15, .int (0 : Int32)])), (q7, .inl (cI, 10, .inl (fun _ => 0))), (q15, .inl (cI, 10, .inl (fun _ => 0)))] H := hP
  have hD : va_D A [(a_this, .inr (1, [.ref q7, .ref q15, .int (0 : Int32)])), (q7, .inl (cI, 10, .inl (fun _ => 0))), (q15, .inl (cI, 10, .inl (fun _ => 0)))] := hD
  have hP := hP.sub (ws' := [(a_this, .inr (1, [.ref q7, .ref q15, .int (0 : Int32)])), (q7, .inl (cI, 10, .inl (fun _ => 0))), (q15, .inl (cI, 10, .inl (fun _ => 0)))]) [0, 1, 2] rfl
  have hD := hD.sub (ws' := [(a_this, .inr (1, [.ref q7, .ref q15, .int (0 : Int32)])), (q7, .inl (cI, 10, .inl (fun _ => 0))), (q15, .inl (cI, 10, .inl (fun _ => 0)))]) [0, 1, 2] (by decide) rfl
  exact hret _ _ _ _ (fun k => [q7, q15].getD k 0) _ dX1_init_20 rfl hP hD hS

abbrev rX2_init : Room := { frames := 1, cells := 4, slots := 17, locals := 24 }
theorem oi_X2_init : Cond.code objectInit ⟨#[0xb1]⟩ 1 none ∈ wsX2_init := List.mem_of_getElem? (i := 3) rfl
theorem n_X2_init_X2 : ∀ w ∈ wsX20, w ∈ wsX2_init := by decide +kernel
set_option maxHeartbeats 2000000 in
set_option maxRecDepth 100000 in
theorem k_X2_init (l : Launch) (G : fxE) (hG : fxGood G) (D : va_G) (cI cJ cZ cH : ClassId) (a_this : Nat) : MetN l yX2_init wsX2_init rX2_init G D (tyL cI cJ cZ cH) [.ref a_this] [(a_this, .inr (2, [.null, .null, .null, .null]))] (fun u => [(a_this, .inr (2, [.ref (u 0), .ref (u 1), .ref (u 2), .ref (u 3)])), ((u 0), .inl (cI, 2, .inl (upd (upd (fun _ => 0) 0 (90 : Int32)) 1 (20 : Int32)))), ((u 1), .inl (cI, 2, .inl (upd (upd (fun _ => 0) 0 (100 : Int32)) 1 (100 : Int32)))), ((u 2), .inl (cJ, 2, .inr (.inl (vp_updL (vp_updL (fun _ => 0) 0 (123210000 : Int64)) 1 (123210000 : Int64))))), ((u 3), .inl (cI, 11, .inl (upd (upd (upd (upd (upd (upd (upd (upd (upd (upd (upd (fun _ => 0) 0 (10 : Int32)) 1 (4 : Int32)) 2 (8 : Int32)) 3 (12 : Int32)) 4 (2 : Int32)) 5 (10 : Int32)) 6 (8 : Int32)) 7 (40 : Int32)) 8 (20 : Int32)) 9 (1 : Int32)) 10 (7 : Int32))))]) 4 17 := by
  refine fx_startN (cc := cX2_init) (n := 1) (plainFor_of_name (by decide)) rfl (Nat.le_of_ble_eq_true rfl) rfl ?_
  intro p e s m args below meth c A Q ls hx hb hml hown hts hA hGs hK hP hD hS hl hin hret
  have hl : lv_has ls 1 [(0, .ref a_this)] := hl
  have iX2 := n_X2_init_X2
  have m3 := hts (.methodLink RX2 3 objectInit) (by decide +kernel)
  have moi := hts (.instanceMethod objectInit) (by decide +kernel)
  have acI := hts (.arrayClass .int) (by decide +kernel)
  have f9 := hts (.fieldLink RX2 9 "FrozeFirst$Night" "start" "[I") (by decide +kernel)
  have f15 := hts (.fieldLink RX2 15 "FrozeFirst$Night" "mass" "[I") (by decide +kernel)
  have acJ := hts (.arrayClass .long) (by decide +kernel)
  have k18 := hts (.constantLong RX2 18 123210000) (by decide +kernel)
  have f20 := hts (.fieldLink RX2 20 "FrozeFirst$Night" "row" "[J") (by decide +kernel)
  have f24 := hts (.fieldLink RX2 24 "FrozeFirst$Night" "alike" "[I") (by decide +kernel)
  refine lv_aload_n hx hb dX2_init_0 rfl (lv_at hl 0 rfl) ?_
  refine W.objInit hx hb hown m3 moi (hts _ oi_X2_init) rfl (by rw [hml]; exact hl.1) rfl dX2_init_1 (Nat.le_of_ble_eq_true rfl) (Nat.le_of_ble_eq_true rfl) ?_
  refine W.eq (g2 := F0 m 4 ls []) rfl ?_
  refine lv_aload_n hx hb dX2_init_4 rfl (lv_at hl 0 rfl) ?_
  refine lv_iconst (v := 2) hx hb dX2_init_5 (by decide) ?_
  refine fx_newa (atype := .int) (ty := .int) (cT := cI) (a0 := (2, .inl (fun _ => 0))) hx hb acI rfl hK hP hD hS hA 0 rfl (by rfl) (fun _ => rfl) (by decide) (N' := 2) (by decide) (by decide) (by decide) (by decide) dX2_init_6 (fun q6 H hP hD hS => ?_)
  have hP : va_P D vwCl [(a_this, .inr (2, [.null, .null, .null, .null])), (q6, .inl (cI, 2, .inl (fun _ => 0)))] H := hP
  have hD : va_D A [(a_this, .inr (2, [.null, .null, .null, .null])), (q6, .inl (cI, 2, .inl (fun _ => 0)))] := hD
  refine W.widen (k := 1) (n := 2) (by decide) (by decide) ?_
  refine lv_dup hx hb dX2_init_8 rfl ?_
  refine lv_iconst (v := 0) hx hb dX2_init_9 (by decide) ?_
  refine lv_bipush (v := 90) hx hb dX2_init_10 (by decide) ?_
  refine fx_iast hx hb hK hP hD hS 1 0 rfl rfl 0 rfl (by decide) (by decide) dX2_init_12 (fun H locs hP hD hS => ?_)
  have hP : va_P D vwCl [(a_this, .inr (2, [.null, .null, .null, .null])), (q6, .inl (cI, 2, .inl (upd (fun _ => 0) 0 (90 : Int32))))] H := hP
  have hD : va_D A [(a_this, .inr (2, [.null, .null, .null, .null])), (q6, .inl (cI, 2, .inl (upd (fun _ => 0) 0 (90 : Int32))))] := hD
  refine lv_dup hx hb dX2_init_13 rfl ?_
  refine lv_iconst (v := 1) hx hb dX2_init_14 (by decide) ?_
  refine lv_bipush (v := 20) hx hb dX2_init_15 (by decide) ?_
  refine fx_iast hx hb hK hP hD hS 1 0 rfl rfl 1 rfl (by decide) (by decide) dX2_init_17 (fun H locs hP hD hS => ?_)
  have hP : va_P D vwCl [(a_this, .inr (2, [.null, .null, .null, .null])), (q6, .inl (cI, 2, .inl (upd (upd (fun _ => 0) 0 (90 : Int32)) 1 (20 : Int32))))] H := hP
  have hD : va_D A [(a_this, .inr (2, [.null, .null, .null, .null])), (q6, .inl (cI, 2, .inl (upd (upd (fun _ => 0) 0 (90 : Int32)) 1 (20 : Int32))))] := hD
  refine va_putF (D := D) (ci := 2) (v := .ref q6) (ty := tyX2 0) (C := RX2) (T := TX2) (N := 4) hx hb hts iX2 tyX2 tyX2_ok nmX2 hown hK hP hD hS 0 rfl rfl 0 (by decide) f9 (fun _ h9 => h9) rfl hin rfl (tyX2_ok 0 (by decide)) rfl rfl (Nat.le_of_ble_eq_true rfl) dX2_init_18 (fun H locs hP hD hS => ?_)
  have hP : va_P D vwCl [(a_this, .inr (2, [.ref q6, .null, .null, .null])), (q6, .inl (cI, 2, .inl (upd (upd (fun _ => 0) 0 (90 : Int32)) 1 (20 : Int32))))] H := hP
  have hD : va_D A [(a_this, .inr (2, [.ref q6, .null, .null, .null])), (q6, .inl (cI, 2, .inl (upd (upd (fun _ => 0) 0 (90 : Int32)) 1 (20 : Int32))))] := hD
  refine lv_aload_n hx hb dX2_init_21 rfl (lv_at hl 0 rfl) ?_
  refine lv_iconst (v := 2) hx hb dX2_init_22 (by decide) ?_
  refine fx_newa (atype := .int) (ty := .int) (cT := cI) (a0 := (2, .inl (fun _ => 0))) hx hb acI rfl hK hP hD hS hA 0 rfl (by rfl) (fun _ => rfl) (by decide) (N' := 2) (by decide) (by decide) (by decide) (by decide) dX2_init_23 (fun q23 H hP hD hS => ?_)
  have hP : va_P D vwCl [(a_this, .inr (2, [.ref q6, .null, .null, .null])), (q6, .inl (cI, 2, .inl (upd (upd (fun _ => 0) 0 (90 : Int32)) 1 (20 : Int32)))), (q23, .inl (cI, 2, .inl (fun _ => 0)))] H := hP
  have hD : va_D A [(a_this, .inr (2, [.ref q6, .null, .null, .null])), (q6, .inl (cI, 2, .inl (upd (upd (fun _ => 0) 0 (90 : Int32)) 1 (20 : Int32)))), (q23, .inl (cI, 2, .inl (fun _ => 0)))] := hD
  refine W.widen (k := 2) (n := 4) (by decide) (by decide) ?_
  refine lv_dup hx hb dX2_init_25 rfl ?_
  refine lv_iconst (v := 0) hx hb dX2_init_26 (by decide) ?_
  refine lv_bipush (v := 100) hx hb dX2_init_27 (by decide) ?_
  refine fx_iast hx hb hK hP hD hS 2 0 rfl rfl 0 rfl (by decide) (by decide) dX2_init_29 (fun H locs hP hD hS => ?_)
  have hP : va_P D vwCl [(a_this, .inr (2, [.ref q6, .null, .null, .null])), (q6, .inl (cI, 2, .inl (upd (upd (fun _ => 0) 0 (90 : Int32)) 1 (20 : Int32)))), (q23, .inl (cI, 2, .inl (upd (fun _ => 0) 0 (100 : Int32))))] H := hP
  have hD : va_D A [(a_this, .inr (2, [.ref q6, .null, .null, .null])), (q6, .inl (cI, 2, .inl (upd (upd (fun _ => 0) 0 (90 : Int32)) 1 (20 : Int32)))), (q23, .inl (cI, 2, .inl (upd (fun _ => 0) 0 (100 : Int32))))] := hD
  refine lv_dup hx hb dX2_init_30 rfl ?_
  refine lv_iconst (v := 1) hx hb dX2_init_31 (by decide) ?_
  refine lv_bipush (v := 100) hx hb dX2_init_32 (by decide) ?_
  refine fx_iast hx hb hK hP hD hS 2 0 rfl rfl 1 rfl (by decide) (by decide) dX2_init_34 (fun H locs hP hD hS => ?_)
  have hP : va_P D vwCl [(a_this, .inr (2, [.ref q6, .null, .null, .null])), (q6, .inl (cI, 2, .inl (upd (upd (fun _ => 0) 0 (90 : Int32)) 1 (20 : Int32)))), (q23, .inl (cI, 2, .inl (upd (upd (fun _ => 0) 0 (100 : Int32)) 1 (100 : Int32))))] H := hP
  have hD : va_D A [(a_this, .inr (2, [.ref q6, .null, .null, .null])), (q6, .inl (cI, 2, .inl (upd (upd (fun _ => 0) 0 (90 : Int32)) 1 (20 : Int32)))), (q23, .inl (cI, 2, .inl (upd (upd (fun _ => 0) 0 (100 : Int32)) 1 (100 : Int32))))] := hD
  refine va_putF (D := D) (ci := 2) (v := .ref q23) (ty := tyX2 1) (C := RX2) (T := TX2) (N := 4) hx hb hts iX2 tyX2 tyX2_ok nmX2 hown hK hP hD hS 0 rfl rfl 1 (by decide) f15 (fun _ h9 => h9) rfl hin rfl (tyX2_ok 1 (by decide)) rfl rfl (Nat.le_of_ble_eq_true rfl) dX2_init_35 (fun H locs hP hD hS => ?_)
  have hP : va_P D vwCl [(a_this, .inr (2, [.ref q6, .ref q23, .null, .null])), (q6, .inl (cI, 2, .inl (upd (upd (fun _ => 0) 0 (90 : Int32)) 1 (20 : Int32)))), (q23, .inl (cI, 2, .inl (upd (upd (fun _ => 0) 0 (100 : Int32)) 1 (100 : Int32))))] H := hP
  have hD : va_D A [(a_this, .inr (2, [.ref q6, .ref q23, .null, .null])), (q6, .inl (cI, 2, .inl (upd (upd (fun _ => 0) 0 (90 : Int32)) 1 (20 : Int32)))), (q23, .inl (cI, 2, .inl (upd (upd (fun _ => 0) 0 (100 : Int32)) 1 (100 : Int32))))] := hD
  refine lv_aload_n hx hb dX2_init_38 rfl (lv_at hl 0 rfl) ?_
  refine lv_iconst (v := 2) hx hb dX2_init_39 (by decide) ?_
  refine fx_newa (atype := .long) (ty := .long) (cT := cJ) (a0 := (2, .inr (.inl (fun _ => 0)))) hx hb acJ rfl hK hP hD hS hA 1 rfl (by rfl) (fun _ => rfl) (by decide) (N' := 2) (by decide) (by decide) (by decide) (by decide) dX2_init_40 (fun q40 H hP hD hS => ?_)
  have hP : va_P D vwCl [(a_this, .inr (2, [.ref q6, .ref q23, .null, .null])), (q6, .inl (cI, 2, .inl (upd (upd (fun _ => 0) 0 (90 : Int32)) 1 (20 : Int32)))), (q23, .inl (cI, 2, .inl (upd (upd (fun _ => 0) 0 (100 : Int32)) 1 (100 : Int32)))), (q40, .inl (cJ, 2, .inr (.inl (fun _ => 0))))] H := hP
  have hD : va_D A [(a_this, .inr (2, [.ref q6, .ref q23, .null, .null])), (q6, .inl (cI, 2, .inl (upd (upd (fun _ => 0) 0 (90 : Int32)) 1 (20 : Int32)))), (q23, .inl (cI, 2, .inl (upd (upd (fun _ => 0) 0 (100 : Int32)) 1 (100 : Int32)))), (q40, .inl (cJ, 2, .inr (.inl (fun _ => 0))))] := hD
  refine W.widen (k := 3) (n := 6) (by decide) (by decide) ?_
  refine lv_dup hx hb dX2_init_42 rfl ?_
  refine lv_iconst (v := 0) hx hb dX2_init_43 (by decide) ?_
  refine lv_ldc2 (v := 123210000) hx hb hown k18 dX2_init_44 ?_
  refine fx_last hx hb hK hP hD hS 3 1 rfl rfl 0 rfl (by decide) (by decide) dX2_init_47 (fun H locs hP hD hS => ?_)
  have hP : va_P D vwCl [(a_this, .inr (2, [.ref q6, .ref q23, .null, .null])), (q6, .inl (cI, 2, .inl (upd (upd (fun _ => 0) 0 (90 : Int32)) 1 (20 : Int32)))), (q23, .inl (cI, 2, .inl (upd (upd (fun _ => 0) 0 (100 : Int32)) 1 (100 : Int32)))), (q40, .inl (cJ, 2, .inr (.inl (vp_updL (fun _ => 0) 0 (123210000 : Int64)))))] H := hP
  have hD : va_D A [(a_this, .inr (2, [.ref q6, .ref q23, .null, .null])), (q6, .inl (cI, 2, .inl (upd (upd (fun _ => 0) 0 (90 : Int32)) 1 (20 : Int32)))), (q23, .inl (cI, 2, .inl (upd (upd (fun _ => 0) 0 (100 : Int32)) 1 (100 : Int32)))), (q40, .inl (cJ, 2, .inr (.inl (vp_updL (fun _ => 0) 0 (123210000 : Int64)))))] := hD
  refine lv_dup hx hb dX2_init_48 rfl ?_
  refine lv_iconst (v := 1) hx hb dX2_init_49 (by decide) ?_
  refine lv_ldc2 (v := 123210000) hx hb hown k18 dX2_init_50 ?_
  refine fx_last hx hb hK hP hD hS 3 1 rfl rfl 1 rfl (by decide) (by decide) dX2_init_53 (fun H locs hP hD hS => ?_)
  have hP : va_P D vwCl [(a_this, .inr (2, [.ref q6, .ref q23, .null, .null])), (q6, .inl (cI, 2, .inl (upd (upd (fun _ => 0) 0 (90 : Int32)) 1 (20 : Int32)))), (q23, .inl (cI, 2, .inl (upd (upd (fun _ => 0) 0 (100 : Int32)) 1 (100 : Int32)))), (q40, .inl (cJ, 2, .inr (.inl (vp_updL (vp_updL (fun _ => 0) 0 (123210000 : Int64)) 1 (123210000 : Int64)))))] H := hP
  have hD : va_D A [(a_this, .inr (2, [.ref q6, .ref q23, .null, .null])), (q6, .inl (cI, 2, .inl (upd (upd (fun _ => 0) 0 (90 : Int32)) 1 (20 : Int32)))), (q23, .inl (cI, 2, .inl (upd (upd (fun _ => 0) 0 (100 : Int32)) 1 (100 : Int32)))), (q40, .inl (cJ, 2, .inr (.inl (vp_updL (vp_updL (fun _ => 0) 0 (123210000 : Int64)) 1 (123210000 : Int64)))))] := hD
  refine va_putF (D := D) (ci := 2) (v := .ref q40) (ty := tyX2 2) (C := RX2) (T := TX2) (N := 4) hx hb hts iX2 tyX2 tyX2_ok nmX2 hown hK hP hD hS 0 rfl rfl 2 (by decide) f20 (fun _ h9 => h9) rfl hin rfl (tyX2_ok 2 (by decide)) rfl rfl (Nat.le_of_ble_eq_true rfl) dX2_init_54 (fun H locs hP hD hS => ?_)
  have hP : va_P D vwCl [(a_this, .inr (2, [.ref q6, .ref q23, .ref q40, .null])), (q6, .inl (cI, 2, .inl (upd (upd (fun _ => 0) 0 (90 : Int32)) 1 (20 : Int32)))), (q23, .inl (cI, 2, .inl (upd (upd (fun _ => 0) 0 (100 : Int32)) 1 (100 : Int32)))), (q40, .inl (cJ, 2, .inr (.inl (vp_updL (vp_updL (fun _ => 0) 0 (123210000 : Int64)) 1 (123210000 : Int64)))))] H := hP
  have hD : va_D A [(a_this, .inr (2, [.ref q6, .ref q23, .ref q40, .null])), (q6, .inl (cI, 2, .inl (upd (upd (fun _ => 0) 0 (90 : Int32)) 1 (20 : Int32)))), (q23, .inl (cI, 2, .inl (upd (upd (fun _ => 0) 0 (100 : Int32)) 1 (100 : Int32)))), (q40, .inl (cJ, 2, .inr (.inl (vp_updL (vp_updL (fun _ => 0) 0 (123210000 : Int64)) 1 (123210000 : Int64)))))] := hD
  refine lv_aload_n hx hb dX2_init_57 rfl (lv_at hl 0 rfl) ?_
  refine lv_bipush (v := 11) hx hb dX2_init_58 (by decide) ?_
  refine fx_newa (atype := .int) (ty := .int) (cT := cI) (a0 := (11, .inl (fun _ => 0))) hx hb acI rfl hK hP hD hS hA 0 rfl (by rfl) (fun _ => rfl) (by decide) (N' := 11) (by decide) (by decide) (by decide) (by decide) dX2_init_60 (fun q60 H hP hD hS => ?_)
  have hP : va_P D vwCl [(a_this, .inr (2, [.ref q6, .ref q23, .ref q40, .null])), (q6, .inl (cI, 2, .inl (upd (upd (fun _ => 0) 0 (90 : Int32)) 1 (20 : Int32)))), (q23, .inl (cI, 2, .inl (upd (upd (fun _ => 0) 0 (100 : Int32)) 1 (100 : Int32)))), (q40, .inl (cJ, 2, .inr (.inl (vp_updL (vp_updL (fun _ => 0) 0 (123210000 : Int64)) 1 (123210000 : Int64))))), (q60, .inl (cI, 11, .inl (fun _ => 0)))] H := hP
  have hD : va_D A [(a_this, .inr (2, [.ref q6, .ref q23, .ref q40, .null])), (q6, .inl (cI, 2, .inl (upd (upd (fun _ => 0) 0 (90 : Int32)) 1 (20 : Int32)))), (q23, .inl (cI, 2, .inl (upd (upd (fun _ => 0) 0 (100 : Int32)) 1 (100 : Int32)))), (q40, .inl (cJ, 2, .inr (.inl (vp_updL (vp_updL (fun _ => 0) 0 (123210000 : Int64)) 1 (123210000 : Int64))))), (q60, .inl (cI, 11, .inl (fun _ => 0)))] := hD
  refine W.widen (k := 4) (n := 17) (by decide) (by decide) ?_
  refine lv_dup hx hb dX2_init_62 rfl ?_
  refine lv_iconst (v := 0) hx hb dX2_init_63 (by decide) ?_
  refine lv_bipush (v := 10) hx hb dX2_init_64 (by decide) ?_
  refine fx_iast hx hb hK hP hD hS 4 0 rfl rfl 0 rfl (by decide) (by decide) dX2_init_66 (fun H locs hP hD hS => ?_)
  have hP : va_P D vwCl [(a_this, .inr (2, [.ref q6, .ref q23, .ref q40, .null])), (q6, .inl (cI, 2, .inl (upd (upd (fun _ => 0) 0 (90 : Int32)) 1 (20 : Int32)))), (q23, .inl (cI, 2, .inl (upd (upd (fun _ => 0) 0 (100 : Int32)) 1 (100 : Int32)))), (q40, .inl (cJ, 2, .inr (.inl (vp_updL (vp_updL (fun _ => 0) 0 (123210000 : Int64)) 1 (123210000 : Int64))))), (q60, .inl (cI, 11, .inl (upd (fun _ => 0) 0 (10 : Int32))))] H := hP
  have hD : va_D A [(a_this, .inr (2, [.ref q6, .ref q23, .ref q40, .null])), (q6, .inl (cI, 2, .inl (upd (upd (fun _ => 0) 0 (90 : Int32)) 1 (20 : Int32)))), (q23, .inl (cI, 2, .inl (upd (upd (fun _ => 0) 0 (100 : Int32)) 1 (100 : Int32)))), (q40, .inl (cJ, 2, .inr (.inl (vp_updL (vp_updL (fun _ => 0) 0 (123210000 : Int64)) 1 (123210000 : Int64))))), (q60, .inl (cI, 11, .inl (upd (fun _ => 0) 0 (10 : Int32))))] := hD
  refine lv_dup hx hb dX2_init_67 rfl ?_
  refine lv_iconst (v := 1) hx hb dX2_init_68 (by decide) ?_
  refine lv_iconst (v := 4) hx hb dX2_init_69 (by decide) ?_
  refine fx_iast hx hb hK hP hD hS 4 0 rfl rfl 1 rfl (by decide) (by decide) dX2_init_70 (fun H locs hP hD hS => ?_)
  have hP : va_P D vwCl [(a_this, .inr (2, [.ref q6, .ref q23, .ref q40, .null])), (q6, .inl (cI, 2, .inl (upd (upd (fun _ => 0) 0 (90 : Int32)) 1 (20 : Int32)))), (q23, .inl (cI, 2, .inl (upd (upd (fun _ => 0) 0 (100 : Int32)) 1 (100 : Int32)))), (q40, .inl (cJ, 2, .inr (.inl (vp_updL (vp_updL (fun _ => 0) 0 (123210000 : Int64)) 1 (123210000 : Int64))))), (q60, .inl (cI, 11, .inl (upd (upd (fun _ => 0) 0 (10 : Int32)) 1 (4 : Int32))))] H := hP
  have hD : va_D A [(a_this, .inr (2, [.ref q6, .ref q23, .ref q40, .null])), (q6, .inl (cI, 2, .inl (upd (upd (fun _ => 0) 0 (90 : Int32)) 1 (20 : Int32)))), (q23, .inl (cI, 2, .inl (upd (upd (fun _ => 0) 0 (100 : Int32)) 1 (100 : Int32)))), (q40, .inl (cJ, 2, .inr (.inl (vp_updL (vp_updL (fun _ => 0) 0 (123210000 : Int64)) 1 (123210000 : Int64))))), (q60, .inl (cI, 11, .inl (upd (upd (fun _ => 0) 0 (10 : Int32)) 1 (4 : Int32))))] := hD
  refine lv_dup hx hb dX2_init_71 rfl ?_
  refine lv_iconst (v := 2) hx hb dX2_init_72 (by decide) ?_
  refine lv_bipush (v := 8) hx hb dX2_init_73 (by decide) ?_
  refine fx_iast hx hb hK hP hD hS 4 0 rfl rfl 2 rfl (by decide) (by decide) dX2_init_75 (fun H locs hP hD hS => ?_)
  have hP : va_P D vwCl [(a_this, .inr (2, [.ref q6, .ref q23, .ref q40, .null])), (q6, .inl (cI, 2, .inl (upd (upd (fun _ => 0) 0 (90 : Int32)) 1 (20 : Int32)))), (q23, .inl (cI, 2, .inl (upd (upd (fun _ => 0) 0 (100 : Int32)) 1 (100 : Int32)))), (q40, .inl (cJ, 2, .inr (.inl (vp_updL (vp_updL (fun _ => 0) 0 (123210000 : Int64)) 1 (123210000 : Int64))))), (q60, .inl (cI, 11, .inl (upd (upd (upd (fun _ => 0) 0 (10 : Int32)) 1 (4 : Int32)) 2 (8 : Int32))))] H := hP
  have hD : va_D A [(a_this, .inr (2, [.ref q6, .ref q23, .ref q40, .null])), (q6, .inl (cI, 2, .inl (upd (upd (fun _ => 0) 0 (90 : Int32)) 1 (20 : Int32)))), (q23, .inl (cI, 2, .inl (upd (upd (fun _ => 0) 0 (100 : Int32)) 1 (100 : Int32)))), (q40, .inl (cJ, 2, .inr (.inl (vp_updL (vp_updL (fun _ => 0) 0 (123210000 : Int64)) 1 (123210000 : Int64))))), (q60, .inl (cI, 11, .inl (upd (upd (upd (fun _ => 0) 0 (10 : Int32)) 1 (4 : Int32)) 2 (8 : Int32))))] := hD
  refine lv_dup hx hb dX2_init_76 rfl ?_
  refine lv_iconst (v := 3) hx hb dX2_init_77 (by decide) ?_
  refine lv_bipush (v := 12) hx hb dX2_init_78 (by decide) ?_
  refine fx_iast hx hb hK hP hD hS 4 0 rfl rfl 3 rfl (by decide) (by decide) dX2_init_80 (fun H locs hP hD hS => ?_)
  have hP : va_P D vwCl [(a_this, .inr (2, [.ref q6, .ref q23, .ref q40, .null])), (q6, .inl (cI, 2, .inl (upd (upd (fun _ => 0) 0 (90 : Int32)) 1 (20 : Int32)))), (q23, .inl (cI, 2, .inl (upd (upd (fun _ => 0) 0 (100 : Int32)) 1 (100 : Int32)))), (q40, .inl (cJ, 2, .inr (.inl (vp_updL (vp_updL (fun _ => 0) 0 (123210000 : Int64)) 1 (123210000 : Int64))))), (q60, .inl (cI, 11, .inl (upd (upd (upd (upd (fun _ => 0) 0 (10 : Int32)) 1 (4 : Int32)) 2 (8 : Int32)) 3 (12 : Int32))))] H := hP
  have hD : va_D A [(a_this, .inr (2, [.ref q6, .ref q23, .ref q40, .null])), (q6, .inl (cI, 2, .inl (upd (upd (fun _ => 0) 0 (90 : Int32)) 1 (20 : Int32)))), (q23, .inl (cI, 2, .inl (upd (upd (fun _ => 0) 0 (100 : Int32)) 1 (100 : Int32)))), (q40, .inl (cJ, 2, .inr (.inl (vp_updL (vp_updL (fun _ => 0) 0 (123210000 : Int64)) 1 (123210000 : Int64))))), (q60, .inl (cI, 11, .inl (upd (upd (upd (upd (fun _ => 0) 0 (10 : Int32)) 1 (4 : Int32)) 2 (8 : Int32)) 3 (12 : Int32))))] := hD
  refine lv_dup hx hb dX2_init_81 rfl ?_
  refine lv_iconst (v := 4) hx hb dX2_init_82 (by decide) ?_
  refine lv_iconst (v := 2) hx hb dX2_init_83 (by decide) ?_
  refine fx_iast hx hb hK hP hD hS 4 0 rfl rfl 4 rfl (by decide) (by decide) dX2_init_84 (fun H locs hP hD hS => ?_)
  have hP : va_P D vwCl [(a_this, .inr (2, [.ref q6, .ref q23, .ref q40, .null])), (q6, .inl (cI, 2, .inl (upd (upd (fun _ => 0) 0 (90 : Int32)) 1 (20 : Int32)))), (q23, .inl (cI, 2, .inl (upd (upd (fun _ => 0) 0 (100 : Int32)) 1 (100 : Int32)))), (q40, .inl (cJ, 2, .inr (.inl (vp_updL (vp_updL (fun _ => 0) 0 (123210000 : Int64)) 1 (123210000 : Int64))))), (q60, .inl (cI, 11, .inl (upd (upd (upd (upd (upd (fun _ => 0) 0 (10 : Int32)) 1 (4 : Int32)) 2 (8 : Int32)) 3 (12 : Int32)) 4 (2 : Int32))))] H := hP
  have hD : va_D A [(a_this, .inr (2, [.ref q6, .ref q23, .ref q40, .null])), (q6, .inl (cI, 2, .inl (upd (upd (fun _ => 0) 0 (90 : Int32)) 1 (20 : Int32)))), (q23, .inl (cI, 2, .inl (upd (upd (fun _ => 0) 0 (100 : Int32)) 1 (100 : Int32)))), (q40, .inl (cJ, 2, .inr (.inl (vp_updL (vp_updL (fun _ => 0) 0 (123210000 : Int64)) 1 (123210000 : Int64))))), (q60, .inl (cI, 11, .inl (upd (upd (upd (upd (upd (fun _ => 0) 0 (10 : Int32)) 1 (4 : Int32)) 2 (8 : Int32)) 3 (12 : Int32)) 4 (2 : Int32))))] := hD
  refine lv_dup hx hb dX2_init_85 rfl ?_
  refine lv_iconst (v := 5) hx hb dX2_init_86 (by decide) ?_
  refine lv_bipush (v := 10) hx hb dX2_init_87 (by decide) ?_
  refine fx_iast hx hb hK hP hD hS 4 0 rfl rfl 5 rfl (by decide) (by decide) dX2_init_89 (fun H locs hP hD hS => ?_)
  have hP : va_P D vwCl [(a_this, .inr (2, [.ref q6, .ref q23, .ref q40, .null])), (q6, .inl (cI, 2, .inl (upd (upd (fun _ => 0) 0 (90 : Int32)) 1 (20 : Int32)))), (q23, .inl (cI, 2, .inl (upd (upd (fun _ => 0) 0 (100 : Int32)) 1 (100 : Int32)))), (q40, .inl (cJ, 2, .inr (.inl (vp_updL (vp_updL (fun _ => 0) 0 (123210000 : Int64)) 1 (123210000 : Int64))))), (q60, .inl (cI, 11, .inl (upd (upd (upd (upd (upd (upd (fun _ => 0) 0 (10 : Int32)) 1 (4 : Int32)) 2 (8 : Int32)) 3 (12 : Int32)) 4 (2 : Int32)) 5 (10 : Int32))))] H := hP
  have hD : va_D A [(a_this, .inr (2, [.ref q6, .ref q23, .ref q40, .null])), (q6, .inl (cI, 2, .inl (upd (upd (fun _ => 0) 0 (90 : Int32)) 1 (20 : Int32)))), (q23, .inl (cI, 2, .inl (upd (upd (fun _ => 0) 0 (100 : Int32)) 1 (100 : Int32)))), (q40, .inl (cJ, 2, .inr (.inl (vp_updL (vp_updL (fun _ => 0) 0 (123210000 : Int64)) 1 (123210000 : Int64))))), (q60, .inl (cI, 11, .inl (upd (upd (upd (upd (upd (upd (fun _ => 0) 0 (10 : Int32)) 1 (4 : Int32)) 2 (8 : Int32)) 3 (12 : Int32)) 4 (2 : Int32)) 5 (10 : Int32))))] := hD
  refine lv_dup hx hb dX2_init_90 rfl ?_
  refine lv_bipush (v := 6) hx hb dX2_init_91 (by decide) ?_
  refine lv_bipush (v := 8) hx hb dX2_init_93 (by decide) ?_
  refine fx_iast hx hb hK hP hD hS 4 0 rfl rfl 6 rfl (by decide) (by decide) dX2_init_95 (fun H locs hP hD hS => ?_)
  have hP : va_P D vwCl [(a_this, .inr (2, [.ref q6, .ref q23, .ref q40, .null])), (q6, .inl (cI, 2, .inl (upd (upd (fun _ => 0) 0 (90 : Int32)) 1 (20 : Int32)))), (q23, .inl (cI, 2, .inl (upd (upd (fun _ => 0) 0 (100 : Int32)) 1 (100 : Int32)))), (q40, .inl (cJ, 2, .inr (.inl (vp_updL (vp_updL (fun _ => 0) 0 (123210000 : Int64)) 1 (123210000 : Int64))))), (q60, .inl (cI, 11, .inl (upd (upd (upd (upd (upd (upd (upd (fun _ => 0) 0 (10 : Int32)) 1 (4 : Int32)) 2 (8 : Int32)) 3 (12 : Int32)) 4 (2 : Int32)) 5 (10 : Int32)) 6 (8 : Int32))))] H := hP
  have hD : va_D A [(a_this, .inr (2, [.ref q6, .ref q23, .ref q40, .null])), (q6, .inl (cI, 2, .inl (upd (upd (fun _ => 0) 0 (90 : Int32)) 1 (20 : Int32)))), (q23, .inl (cI, 2, .inl (upd (upd (fun _ => 0) 0 (100 : Int32)) 1 (100 : Int32)))), (q40, .inl (cJ, 2, .inr (.inl (vp_updL (vp_updL (fun _ => 0) 0 (123210000 : Int64)) 1 (123210000 : Int64))))), (q60, .inl (cI, 11, .inl (upd (upd (upd (upd (upd (upd (upd (fun _ => 0) 0 (10 : Int32)) 1 (4 : Int32)) 2 (8 : Int32)) 3 (12 : Int32)) 4 (2 : Int32)) 5 (10 : Int32)) 6 (8 : Int32))))] := hD
  refine lv_dup hx hb dX2_init_96 rfl ?_
  refine lv_bipush (v := 7) hx hb dX2_init_97 (by decide) ?_
  refine lv_bipush (v := 40) hx hb dX2_init_99 (by decide) ?_
  refine fx_iast hx hb hK hP hD hS 4 0 rfl rfl 7 rfl (by decide) (by decide) dX2_init_101 (fun H locs hP hD hS => ?_)
  have hP : va_P D vwCl [(a_this, .inr (2, [.ref q6, .ref q23, .ref q40, .null])), (q6, .inl (cI, 2, .inl (upd (upd (fun _ => 0) 0 (90 : Int32)) 1 (20 : Int32)))), (q23, .inl (cI, 2, .inl (upd (upd (fun _ => 0) 0 (100 : Int32)) 1 (100 : Int32)))), (q40, .inl (cJ, 2, .inr (.inl (vp_updL (vp_updL (fun _ => 0) 0 (123210000 : Int64)) 1 (123210000 : Int64))))), (q60, .inl (cI, 11, .inl (upd (upd (upd (upd (upd (upd (upd (upd (fun _ => 0) 0 (10 : Int32)) 1 (4 : Int32)) 2 (8 : Int32)) 3 (12 : Int32)) 4 (2 : Int32)) 5 (10 : Int32)) 6 (8 : Int32)) 7 (40 : Int32))))] H := hP
  have hD : va_D A [(a_this, .inr (2, [.ref q6, .ref q23, .ref q40, .null])), (q6, .inl (cI, 2, .inl (upd (upd (fun _ => 0) 0 (90 : Int32)) 1 (20 : Int32)))), (q23, .inl (cI, 2, .inl (upd (upd (fun _ => 0) 0 (100 : Int32)) 1 (100 : Int32)))), (q40, .inl (cJ, 2, .inr (.inl (vp_updL (vp_updL (fun _ => 0) 0 (123210000 : Int64)) 1 (123210000 : Int64))))), (q60, .inl (cI, 11, .inl (upd (upd (upd (upd (upd (upd (upd (upd (fun _ => 0) 0 (10 : Int32)) 1 (4 : Int32)) 2 (8 : Int32)) 3 (12 : Int32)) 4 (2 : Int32)) 5 (10 : Int32)) 6 (8 : Int32)) 7 (40 : Int32))))] := hD
  refine lv_dup hx hb dX2_init_102 rfl ?_
  refine lv_bipush (v := 8) hx hb dX2_init_103 (by decide) ?_
  refine lv_bipush (v := 20) hx hb dX2_init_105 (by decide) ?_
  refine fx_iast hx hb hK hP hD hS 4 0 rfl rfl 8 rfl (by decide) (by decide) dX2_init_107 (fun H locs hP hD hS => ?_)
  have hP : va_P D vwCl [(a_this, .inr (2, [.ref q6, .ref q23, .ref q40, .null])), (q6, .inl (cI, 2, .inl (upd (upd (fun _ => 0) 0 (90 : Int32)) 1 (20 : Int32)))), (q23, .inl (cI, 2, .inl (upd (upd (fun _ => 0) 0 (100 : Int32)) 1 (100 : Int32)))), (q40, .inl (cJ, 2, .inr (.inl (vp_updL (vp_updL (fun _ => 0) 0 (123210000 : Int64)) 1 (123210000 : Int64))))), (q60, .inl (cI, 11, .inl (upd (upd (upd (upd (upd (upd (upd (upd (upd (fun _ => 0) 0 (10 : Int32)) 1 (4 : Int32)) 2 (8 : Int32)) 3 (12 : Int32)) 4 (2 : Int32)) 5 (10 : Int32)) 6 (8 : Int32)) 7 (40 : Int32)) 8 (20 : Int32))))] H := hP
  have hD : va_D A [(a_this, .inr (2, [.ref q6, .ref q23, .ref q40, .null])), (q6, .inl (cI, 2, .inl (upd (upd (fun _ => 0) 0 (90 : Int32)) 1 (20 : Int32)))), (q23, .inl (cI, 2, .inl (upd (upd (fun _ => 0) 0 (100 : Int32)) 1 (100 : Int32)))), (q40, .inl (cJ, 2, .inr (.inl (vp_updL (vp_updL (fun _ => 0) 0 (123210000 : Int64)) 1 (123210000 : Int64))))), (q60, .inl (cI, 11, .inl (upd (upd (upd (upd (upd (upd (upd (upd (upd (fun _ => 0) 0 (10 : Int32)) 1 (4 : Int32)) 2 (8 : Int32)) 3 (12 : Int32)) 4 (2 : Int32)) 5 (10 : Int32)) 6 (8 : Int32)) 7 (40 : Int32)) 8 (20 : Int32))))] := hD
  refine lv_dup hx hb dX2_init_108 rfl ?_
  refine lv_bipush (v := 9) hx hb dX2_init_109 (by decide) ?_
  refine lv_iconst (v := 1) hx hb dX2_init_111 (by decide) ?_
  refine fx_iast hx hb hK hP hD hS 4 0 rfl rfl 9 rfl (by decide) (by decide) dX2_init_112 (fun H locs hP hD hS => ?_)
  have hP : va_P D vwCl [(a_this, .inr (2, [.ref q6, .ref q23, .ref q40, .null])), (q6, .inl (cI, 2, .inl (upd (upd (fun _ => 0) 0 (90 : Int32)) 1 (20 : Int32)))), (q23, .inl (cI, 2, .inl (upd (upd (fun _ => 0) 0 (100 : Int32)) 1 (100 : Int32)))), (q40, .inl (cJ, 2, .inr (.inl (vp_updL (vp_updL (fun _ => 0) 0 (123210000 : Int64)) 1 (123210000 : Int64))))), (q60, .inl (cI, 11, .inl (upd (upd (upd (upd (upd (upd (upd (upd (upd (upd (fun _ => 0) 0 (10 : Int32)) 1 (4 : Int32)) 2 (8 : Int32)) 3 (12 : Int32)) 4 (2 : Int32)) 5 (10 : Int32)) 6 (8 : Int32)) 7 (40 : Int32)) 8 (20 : Int32)) 9 (1 : Int32))))] H := hP
  have hD : va_D A [(a_this, .inr (2, [.ref q6, .ref q23, .ref q40, .null])), (q6, .inl (cI, 2, .inl (upd (upd (fun _ => 0) 0 (90 : Int32)) 1 (20 : Int32)))), (q23, .inl (cI, 2, .inl (upd (upd (fun _ => 0) 0 (100 : Int32)) 1 (100 : Int32)))), (q40, .inl (cJ, 2, .inr (.inl (vp_updL (vp_updL (fun _ => 0) 0 (123210000 : Int64)) 1 (123210000 : Int64))))), (q60, .inl (cI, 11, .inl (upd (upd (upd (upd (upd (upd (upd (upd (upd (upd (fun _ => 0) 0 (10 : Int32)) 1 (4 : Int32)) 2 (8 : Int32)) 3 (12 : Int32)) 4 (2 : Int32)) 5 (10 : Int32)) 6 (8 : Int32)) 7 (40 : Int32)) 8 (20 : Int32)) 9 (1 : Int32))))] := hD
  refine lv_dup hx hb dX2_init_113 rfl ?_
  refine lv_bipush (v := 10) hx hb dX2_init_114 (by decide) ?_
  refine lv_bipush (v := 7) hx hb dX2_init_116 (by decide) ?_
  refine fx_iast hx hb hK hP hD hS 4 0 rfl rfl 10 rfl (by decide) (by decide) dX2_init_118 (fun H locs hP hD hS => ?_)
  have hP : va_P D vwCl [(a_this, .inr (2, [.ref q6, .ref q23, .ref q40, .null])), (q6, .inl (cI, 2, .inl (upd (upd (fun _ => 0) 0 (90 : Int32)) 1 (20 : Int32)))), (q23, .inl (cI, 2, .inl (upd (upd (fun _ => 0) 0 (100 : Int32)) 1 (100 : Int32)))), (q40, .inl (cJ, 2, .inr (.inl (vp_updL (vp_updL (fun _ => 0) 0 (123210000 : Int64)) 1 (123210000 : Int64))))), (q60, .inl (cI, 11, .inl (upd (upd (upd (upd (upd (upd (upd (upd (upd (upd (upd (fun _ => 0) 0 (10 : Int32)) 1 (4 : Int32)) 2 (8 : Int32)) 3 (12 : Int32)) 4 (2 : Int32)) 5 (10 : Int32)) 6 (8 : Int32)) 7 (40 : Int32)) 8 (20 : Int32)) 9 (1 : Int32)) 10 (7 : Int32))))] H := hP
  have hD : va_D A [(a_this, .inr (2, [.ref q6, .ref q23, .ref q40, .null])), (q6, .inl (cI, 2, .inl (upd (upd (fun _ => 0) 0 (90 : Int32)) 1 (20 : Int32)))), (q23, .inl (cI, 2, .inl (upd (upd (fun _ => 0) 0 (100 : Int32)) 1 (100 : Int32)))), (q40, .inl (cJ, 2, .inr (.inl (vp_updL (vp_updL (fun _ => 0) 0 (123210000 : Int64)) 1 (123210000 : Int64))))), (q60, .inl (cI, 11, .inl (upd (upd (upd (upd (upd (upd (upd (upd (upd (upd (upd (fun _ => 0) 0 (10 : Int32)) 1 (4 : Int32)) 2 (8 : Int32)) 3 (12 : Int32)) 4 (2 : Int32)) 5 (10 : Int32)) 6 (8 : Int32)) 7 (40 : Int32)) 8 (20 : Int32)) 9 (1 : Int32)) 10 (7 : Int32))))] := hD
  refine va_putF (D := D) (ci := 2) (v := .ref q60) (ty := tyX2 3) (C := RX2) (T := TX2) (N := 4) hx hb hts iX2 tyX2 tyX2_ok nmX2 hown hK hP hD hS 0 rfl rfl 3 (by decide) f24 (fun _ h9 => h9) rfl hin rfl (tyX2_ok 3 (by decide)) rfl rfl (Nat.le_of_ble_eq_true rfl) dX2_init_119 (fun H locs hP hD hS => ?_)
  have hP : va_P D vwCl [(a_this, .inr (2, [.ref q6, .ref q23, .ref q40, .ref q60])), (q6, .inl (cI, 2, .inl (upd (upd (fun _ => 0) 0 (90 : Int32)) 1 (20 : Int32)))), (q23, .inl (cI, 2, .inl (upd (upd (fun _ => 0) 0 (100 : Int32)) 1 (100 : Int32)))), (q40, .inl (cJ, 2, .inr (.inl (vp_updL (vp_updL (fun _ => 0) 0 (123210000 : Int64)) 1 (123210000 : Int64))))), (q60, .inl (cI, 11, .inl (upd (upd (upd (upd (upd (upd (upd (upd (upd (upd (upd (fun _ => 0) 0 (10 : Int32)) 1 (4 : Int32)) 2 (8 : Int32)) 3 (12 : Int32)) 4 (2 : Int32)) 5 (10 : Int32)) 6 (8 : Int32)) 7 (40 : Int32)) 8 (20 : Int32)) 9 (1 : Int32)) 10 (7 : Int32))))] H := hP
  have hD : va_D A [(a_this, .inr (2, [.ref q6, .ref q23, .ref q40, .ref q60])), (q6, .inl (cI, 2, .inl (upd (upd (fun _ => 0) 0 (90 : Int32)) 1 (20 : Int32)))), (q23, .inl (cI, 2, .inl (upd (upd (fun _ => 0) 0 (100 : Int32)) 1 (100 : Int32)))), (q40, .inl (cJ, 2, .inr (.inl (vp_updL (vp_updL (fun _ => 0) 0 (123210000 : Int64)) 1 (123210000 : Int64))))), (q60, .inl (cI, 11, .inl (upd (upd (upd (upd (upd (upd (upd (upd (upd (upd (upd (fun _ => 0) 0 (10 : Int32)) 1 (4 : Int32)) 2 (8 : Int32)) 3 (12 : Int32)) 4 (2 : Int32)) 5 (10 : Int32)) 6 (8 : Int32)) 7 (40 : Int32)) 8 (20 : Int32)) 9 (1 : Int32)) 10 (7 : Int32))))] := hD
  have hP := hP.sub (ws' := [(a_this, .inr (2, [.ref q6, .ref q23, .ref q40, .ref q60])), (q6, .inl (cI, 2, .inl (upd (upd (fun _ => 0) 0 (90 : Int32)) 1 (20 : Int32)))), (q23, .inl (cI, 2, .inl (upd (upd (fun _ => 0) 0 (100 : Int32)) 1 (100 : Int32)))), (q40, .inl (cJ, 2, .inr (.inl (vp_updL (vp_updL (fun _ => 0) 0 (123210000 : Int64)) 1 (123210000 : Int64))))), (q60, .inl (cI, 11, .inl (upd (upd (upd (upd (upd (upd (upd (upd (upd (upd (upd (fun _ => 0) 0 (10 : Int32)) 1 (4 : Int32)) 2 (8 : Int32)) 3 (12 : Int32)) 4 (2 : Int32)) 5 (10 : Int32)) 6 (8 : Int32)) 7 (40 : Int32)) 8 (20 : Int32)) 9 (1 : Int32)) 10 (7 : Int32))))]) [0, 1, 2, 3, 4] rfl
  have hD := hD.sub (ws' := [(a_this, .inr (2, [.ref q6, .ref q23, .ref q40, .ref q60])), (q6, .inl (cI, 2, .inl (upd (upd (fun _ => 0) 0 (90 : Int32)) 1 (20 : Int32)))), (q23, .inl (cI, 2, .inl (upd (upd (fun _ => 0) 0 (100 : Int32)) 1 (100 : Int32)))), (q40, .inl (cJ, 2, .inr (.inl (vp_updL (vp_updL (fun _ => 0) 0 (123210000 : Int64)) 1 (123210000 : Int64))))), (q60, .inl (cI, 11, .inl (upd (upd (upd (upd (upd (upd (upd (upd (upd (upd (upd (fun _ => 0) 0 (10 : Int32)) 1 (4 : Int32)) 2 (8 : Int32)) 3 (12 : Int32)) 4 (2 : Int32)) 5 (10 : Int32)) 6 (8 : Int32)) 7 (40 : Int32)) 8 (20 : Int32)) 9 (1 : Int32)) 10 (7 : Int32))))]) [0, 1, 2, 3, 4] (by decide) rfl
  exact hret _ _ _ _ (fun k => [q6, q23, q40, q60].getD k 0) _ dX2_init_122 rfl hP hD hS

abbrev rX3_init : Room := { frames := 1, cells := 3, slots := 12, locals := 24 }
theorem oi_X3_init : Cond.code objectInit ⟨#[0xb1]⟩ 1 none ∈ wsX3_init := List.mem_of_getElem? (i := 3) rfl
theorem n_X3_init_X3 : ∀ w ∈ wsX30, w ∈ wsX3_init := by decide +kernel
set_option maxHeartbeats 2000000 in
set_option maxRecDepth 100000 in
theorem k_X3_init (l : Launch) (G : fxE) (hG : fxGood G) (D : va_G) (cI cJ cZ cH : ClassId) (a_this : Nat) : MetN l yX3_init wsX3_init rX3_init G D (tyL cI cJ cZ cH) [.ref a_this] [(a_this, .inr (3, [.null, .null, .null, .int (0 : Int32), .int (0 : Int32), .int (0 : Int32), .int (0 : Int32), .int (0 : Int32), .int (0 : Int32), .int (0 : Int32), .int (0 : Int32), .int (0 : Int32), .int (0 : Int32), .int (0 : Int32), .int (0 : Int32), .int (0 : Int32), .int (0 : Int32), .int (0 : Int32)]))] (fun u => [(a_this, .inr (3, [.ref (u 0), .ref (u 1), .ref (u 2), .int (0 : Int32), .int (0 : Int32), .int (0 : Int32), .int (0 : Int32), .int (0 : Int32), .int (0 : Int32), .int (0 : Int32), .int (0 : Int32), .int (0 : Int32), .int (0 : Int32), .int (0 : Int32), .int (0 : Int32), .int (0 : Int32), .int (0 : Int32), .int (0 : Int32)])), ((u 0), .inl (cI, 4, .inl (fun _ => 0))), ((u 1), .inl (cI, 4, .inl (fun _ => 0))), ((u 2), .inl (cI, 4, .inl (fun _ => 0)))]) 3 12 := by
  refine fx_startN (cc := cX3_init) (n := 1) (plainFor_of_name (by decide)) rfl (Nat.le_of_ble_eq_true rfl) rfl ?_
  intro p e s m args below meth c A Q ls hx hb hml hown hts hA hGs hK hP hD hS hl hin hret
  have hl : lv_has ls 1 [(0, .ref a_this)] := hl
  have iX3 := n_X3_init_X3
  have m3 := hts (.methodLink RX3 3 objectInit) (by decide +kernel)
  have moi := hts (.instanceMethod objectInit) (by decide +kernel)
  have acI := hts (.arrayClass .int) (by decide +kernel)
  have f9 := hts (.fieldLink RX3 9 "FrozeFirst$Run" "cells" "[I") (by decide +kernel)
  have f15 := hts (.fieldLink RX3 15 "FrozeFirst$Run" "losses" "[I") (by decide +kernel)
  have f18 := hts (.fieldLink RX3 18 "FrozeFirst$Run" "rates" "[I") (by decide +kernel)
  refine lv_aload_n hx hb dX3_init_0 rfl (lv_at hl 0 rfl) ?_
  refine W.objInit hx hb hown m3 moi (hts _ oi_X3_init) rfl (by rw [hml]; exact hl.1) rfl dX3_init_1 (Nat.le_of_ble_eq_true rfl) (Nat.le_of_ble_eq_true rfl) ?_
  refine W.eq (g2 := F0 m 4 ls []) rfl ?_
  refine lv_aload_n hx hb dX3_init_4 rfl (lv_at hl 0 rfl) ?_
  refine lv_iconst (v := 4) hx hb dX3_init_5 (by decide) ?_
  refine fx_newa (atype := .int) (ty := .int) (cT := cI) (a0 := (4, .inl (fun _ => 0))) hx hb acI rfl hK hP hD hS hA 0 rfl (by rfl) (fun _ => rfl) (by decide) (N' := 4) (by decide) (by decide) (by decide) (by decide) dX3_init_6 (fun q6 H hP hD hS => ?_)
  have hP : va_P D vwCl [(a_this, .inr (3, [.null, .null, .null, .int (0 : Int32), .int (0 : Int32), .int (0 : Int32), .int (0 : Int32), .int (0 : Int32), .int (0 : Int32), .int (0 : Int32), .int (0 : Int32), .int (0 : Int32), .int (0 : Int32), .int (0 : Int32), .int (0 : Int32), .int (0 : Int32), .int (0 : Int32), .int (0 : Int32)])), (q6, .inl (cI, 4, .inl (fun _ => 0)))] H := hP
  have hD : va_D A [(a_this, .inr (3, [.null, .null, .null, .int (0 : Int32), .int (0 : Int32), .int (0 : Int32), .int (0 : Int32), .int (0 : Int32), .int (0 : Int32), .int (0 : Int32), .int (0 : Int32), .int (0 : Int32), .int (0 : Int32), .int (0 : Int32), .int (0 : Int32), .int (0 : Int32), .int (0 : Int32), .int (0 : Int32)])), (q6, .inl (cI, 4, .inl (fun _ => 0)))] := hD
  refine W.widen (k := 1) (n := 4) (by decide) (by decide) ?_
  refine va_putF (D := D) (ci := 3) (v := .ref q6) (ty := tyX3 0) (C := RX3) (T := TX3) (N := 18) hx hb hts iX3 tyX3 tyX3_ok nmX3 hown hK hP hD hS 0 rfl rfl 0 (by decide) f9 (fun _ h9 => h9) rfl hin rfl (tyX3_ok 0 (by decide)) rfl rfl (Nat.le_of_ble_eq_true rfl) dX3_init_8 (fun H locs hP hD hS => ?_)
  have hP : va_P D vwCl [(a_this, .inr (3, [.ref q6, .null, .null, .int (0 : Int32), .int (0 : Int32), .int (0 : Int32), .int (0 : Int32), .int (0 : Int32), .int (0 : Int32), .int (0 : Int32), .int (0 : Int32), .int (0 : Int32), .int (0 : Int32), .int (0 : Int32), .int (0 : Int32), .int (0 : Int32), .int (0 : Int32), .int (0 : Int32)])), (q6, .inl (cI, 4, .inl (fun _ => 0)))] H := hP
  have hD : va_D A [(a_this, .inr (3, [.ref q6, .null, .null, .int (0 : Int32), .int (0 : Int32), .int (0 : Int32), .int (0 : Int32), .int (0 : Int32), .int (0 : Int32), .int (0 : Int32), .int (0 : Int32), .int (0 : Int32), .int (0 : Int32), .int (0 : Int32), .int (0 : Int32), .int (0 : Int32), .int (0 : Int32), .int (0 : Int32)])), (q6, .inl (cI, 4, .inl (fun _ => 0)))] := hD
  refine lv_aload_n hx hb dX3_init_11 rfl (lv_at hl 0 rfl) ?_
  refine lv_iconst (v := 4) hx hb dX3_init_12 (by decide) ?_
  refine fx_newa (atype := .int) (ty := .int) (cT := cI) (a0 := (4, .inl (fun _ => 0))) hx hb acI rfl hK hP hD hS hA 0 rfl (by rfl) (fun _ => rfl) (by decide) (N' := 4) (by decide) (by decide) (by decide) (by decide) dX3_init_13 (fun q13 H hP hD hS => ?_)
  have hP : va_P D vwCl [(a_this, .inr (3, [.ref q6, .null, .null, .int (0 : Int32), .int (0 : Int32), .int (0 : Int32), .int (0 : Int32), .int (0 : Int32), .int (0 : Int32), .int (0 : Int32), .int (0 : Int32), .int (0 : Int32), .int (0 : Int32), .int (0 : Int32), .int (0 : Int32), .int (0 : Int32), .int (0 : Int32), .int (0 : Int32)])), (q6, .inl (cI, 4, .inl (fun _ => 0))), (q13, .inl (cI, 4, .inl (fun _ => 0)))] H := hP
  have hD : va_D A [(a_this, .inr (3, [.ref q6, .null, .null, .int (0 : Int32), .int (0 : Int32), .int (0 : Int32), .int (0 : Int32), .int (0 : Int32), .int (0 : Int32), .int (0 : Int32), .int (0 : Int32), .int (0 : Int32), .int (0 : Int32), .int (0 : Int32), .int (0 : Int32), .int (0 : Int32), .int (0 : Int32), .int (0 : Int32)])), (q6, .inl (cI, 4, .inl (fun _ => 0))), (q13, .inl (cI, 4, .inl (fun _ => 0)))] := hD
  refine W.widen (k := 2) (n := 8) (by decide) (by decide) ?_
  refine va_putF (D := D) (ci := 3) (v := .ref q13) (ty := tyX3 1) (C := RX3) (T := TX3) (N := 18) hx hb hts iX3 tyX3 tyX3_ok nmX3 hown hK hP hD hS 0 rfl rfl 1 (by decide) f15 (fun _ h9 => h9) rfl hin rfl (tyX3_ok 1 (by decide)) rfl rfl (Nat.le_of_ble_eq_true rfl) dX3_init_15 (fun H locs hP hD hS => ?_)
  have hP : va_P D vwCl [(a_this, .inr (3, [.ref q6, .ref q13, .null, .int (0 : Int32), .int (0 : Int32), .int (0 : Int32), .int (0 : Int32), .int (0 : Int32), .int (0 : Int32), .int (0 : Int32), .int (0 : Int32), .int (0 : Int32), .int (0 : Int32), .int (0 : Int32), .int (0 : Int32), .int (0 : Int32), .int (0 : Int32), .int (0 : Int32)])), (q6, .inl (cI, 4, .inl (fun _ => 0))), (q13, .inl (cI, 4, .inl (fun _ => 0)))] H := hP
  have hD : va_D A [(a_this, .inr (3, [.ref q6, .ref q13, .null, .int (0 : Int32), .int (0 : Int32), .int (0 : Int32), .int (0 : Int32), .int (0 : Int32), .int (0 : Int32), .int (0 : Int32), .int (0 : Int32), .int (0 : Int32), .int (0 : Int32), .int (0 : Int32), .int (0 : Int32), .int (0 : Int32), .int (0 : Int32), .int (0 : Int32)])), (q6, .inl (cI, 4, .inl (fun _ => 0))), (q13, .inl (cI, 4, .inl (fun _ => 0)))] := hD
  refine lv_aload_n hx hb dX3_init_18 rfl (lv_at hl 0 rfl) ?_
  refine lv_iconst (v := 4) hx hb dX3_init_19 (by decide) ?_
  refine fx_newa (atype := .int) (ty := .int) (cT := cI) (a0 := (4, .inl (fun _ => 0))) hx hb acI rfl hK hP hD hS hA 0 rfl (by rfl) (fun _ => rfl) (by decide) (N' := 4) (by decide) (by decide) (by decide) (by decide) dX3_init_20 (fun q20 H hP hD hS => ?_)
  have hP : va_P D vwCl [(a_this, .inr (3, [.ref q6, .ref q13, .null, .int (0 : Int32), .int (0 : Int32), .int (0 : Int32), .int (0 : Int32), .int (0 : Int32), .int (0 : Int32), .int (0 : Int32), .int (0 : Int32), .int (0 : Int32), .int (0 : Int32), .int (0 : Int32), .int (0 : Int32), .int (0 : Int32), .int (0 : Int32), .int (0 : Int32)])), (q6, .inl (cI, 4, .inl (fun _ => 0))), (q13, .inl (cI, 4, .inl (fun _ => 0))), (q20, .inl (cI, 4, .inl (fun _ => 0)))] H := hP
  have hD : va_D A [(a_this, .inr (3, [.ref q6, .ref q13, .null, .int (0 : Int32), .int (0 : Int32), .int (0 : Int32), .int (0 : Int32), .int (0 : Int32), .int (0 : Int32), .int (0 : Int32), .int (0 : Int32), .int (0 : Int32), .int (0 : Int32), .int (0 : Int32), .int (0 : Int32), .int (0 : Int32), .int (0 : Int32), .int (0 : Int32)])), (q6, .inl (cI, 4, .inl (fun _ => 0))), (q13, .inl (cI, 4, .inl (fun _ => 0))), (q20, .inl (cI, 4, .inl (fun _ => 0)))] := hD
  refine W.widen (k := 3) (n := 12) (by decide) (by decide) ?_
  refine va_putF (D := D) (ci := 3) (v := .ref q20) (ty := tyX3 2) (C := RX3) (T := TX3) (N := 18) hx hb hts iX3 tyX3 tyX3_ok nmX3 hown hK hP hD hS 0 rfl rfl 2 (by decide) f18 (fun _ h9 => h9) rfl hin rfl (tyX3_ok 2 (by decide)) rfl rfl (Nat.le_of_ble_eq_true rfl) dX3_init_22 (fun H locs hP hD hS => ?_)
  have hP : va_P D vwCl [(a_this, .inr (3, [.ref q6, .ref q13, .ref q20, .int (0 : Int32), .int (0 : Int32), .int (0 : Int32), .int (0 : Int32), .int (0 : Int32), .int (0 : Int32), .int (0 : Int32), .int (0 : Int32), .int (0 : Int32), .int (0 : Int32), .int (0 : Int32), .int (0 : Int32), .int (0 : Int32), .int (0 : Int32), .int (0 : Int32)])), (q6, .inl (cI, 4, .inl (fun _ => 0))), (q13, .inl (cI, 4, .inl (fun _ => 0))), (q20, .inl (cI, 4, .inl (fun _ => 0)))] H := hP
  have hD : va_D A [(a_this, .inr (3, [.ref q6, .ref q13, .ref q20, .int (0 : Int32), .int (0 : Int32), .int (0 : Int32), .int (0 : Int32), .int (0 : Int32), .int (0 : Int32), .int (0 : Int32), .int (0 : Int32), .int (0 : Int32), .int (0 : Int32), .int (0 : Int32), .int (0 : Int32), .int (0 : Int32), .int (0 : Int32), .int (0 : Int32)])), (q6, .inl (cI, 4, .inl (fun _ => 0))), (q13, .inl (cI, 4, .inl (fun _ => 0))), (q20, .inl (cI, 4, .inl (fun _ => 0)))] := hD
  have hP := hP.sub (ws' := [(a_this, .inr (3, [.ref q6, .ref q13, .ref q20, .int (0 : Int32), .int (0 : Int32), .int (0 : Int32), .int (0 : Int32), .int (0 : Int32), .int (0 : Int32), .int (0 : Int32), .int (0 : Int32), .int (0 : Int32), .int (0 : Int32), .int (0 : Int32), .int (0 : Int32), .int (0 : Int32), .int (0 : Int32), .int (0 : Int32)])), (q6, .inl (cI, 4, .inl (fun _ => 0))), (q13, .inl (cI, 4, .inl (fun _ => 0))), (q20, .inl (cI, 4, .inl (fun _ => 0)))]) [0, 1, 2, 3] rfl
  have hD := hD.sub (ws' := [(a_this, .inr (3, [.ref q6, .ref q13, .ref q20, .int (0 : Int32), .int (0 : Int32), .int (0 : Int32), .int (0 : Int32), .int (0 : Int32), .int (0 : Int32), .int (0 : Int32), .int (0 : Int32), .int (0 : Int32), .int (0 : Int32), .int (0 : Int32), .int (0 : Int32), .int (0 : Int32), .int (0 : Int32), .int (0 : Int32)])), (q6, .inl (cI, 4, .inl (fun _ => 0))), (q13, .inl (cI, 4, .inl (fun _ => 0))), (q20, .inl (cI, 4, .inl (fun _ => 0)))]) [0, 1, 2, 3] (by decide) rfl
  exact hret _ _ _ _ (fun k => [q6, q13, q20].getD k 0) _ dX3_init_25 rfl hP hD hS

abbrev rX5_init : Room := { frames := 1, cells := 2, slots := 40, locals := 24 }
theorem oi_X5_init : Cond.code objectInit ⟨#[0xb1]⟩ 1 none ∈ wsX5_init := List.mem_of_getElem? (i := 3) rfl
theorem n_X5_init_X5 : ∀ w ∈ wsX50, w ∈ wsX5_init := by decide +kernel
set_option maxHeartbeats 2000000 in
set_option maxRecDepth 100000 in
theorem k_X5_init (l : Launch) (G : fxE) (hG : fxGood G) (D : va_G) (cI cJ cZ cH : ClassId) (a_this : Nat) : MetN l yX5_init wsX5_init rX5_init G D (tyL cI cJ cZ cH) [.ref a_this] [(a_this, .inr (5, [.null, .null, .int (0 : Int32)]))] (fun u => [(a_this, .inr (5, [.ref (u 0), .ref (u 1), .int (0 : Int32)])), ((u 0), .inl (cI, 20, .inl (fun _ => 0))), ((u 1), .inl (cI, 20, .inl (fun _ => 0)))]) 2 40 := by
  refine fx_startN (cc := cX5_init) (n := 1) (plainFor_of_name (by decide)) rfl (Nat.le_of_ble_eq_true rfl) rfl ?_
  intro p e s m args below meth c A Q ls hx hb hml hown hts hA hGs hK hP hD hS hl hin hret
  have hl : lv_has ls 1 [(0, .ref a_this)] := hl
  have iX5 := n_X5_init_X5
  have m3 := hts (.methodLink RX5 3 objectInit) (by decide +kernel)
  have moi := hts (.instanceMethod objectInit) (by decide +kernel)
  have acI := hts (.arrayClass .int) (by decide +kernel)
  have f9 := hts (.fieldLink RX5 9 "FrozeFirst$Tries" "kept" "[I") (by decide +kernel)
  have f15 := hts (.fieldLink RX5 15 "FrozeFirst$Tries" "ended" "[I") (by decide +kernel)
  refine lv_aload_n hx hb dX5_init_0 rfl (lv_at hl 0 rfl) ?_
  refine W.objInit hx hb hown m3 moi (hts _ oi_X5_init) rfl (by rw [hml]; exact hl.1) rfl dX5_init_1 (Nat.le_of_ble_eq_true rfl) (Nat.le_of_ble_eq_true rfl) ?_
  refine W.eq (g2 := F0 m 4 ls []) rfl ?_
  refine lv_aload_n hx hb dX5_init_4 rfl (lv_at hl 0 rfl) ?_
  refine lv_bipush (v := 20) hx hb dX5_init_5 (by decide) ?_
  refine fx_newa (atype := .int) (ty := .int) (cT := cI) (a0 := (20, .inl (fun _ => 0))) hx hb acI rfl hK hP hD hS hA 0 rfl (by rfl) (fun _ => rfl) (by decide) (N' := 20) (by decide) (by decide) (by decide) (by decide) dX5_init_7 (fun q7 H hP hD hS => ?_)
  have hP : va_P D vwCl [(a_this, .inr (5, [.null, .null, .int (0 : Int32)])), (q7, .inl (cI, 20, .inl (fun _ => 0)))] H := hP
  have hD : va_D A [(a_this, .inr (5, [.null, .null, .int (0 : Int32)])), (q7, .inl (cI, 20, .inl (fun _ => 0)))] := hD
  refine W.widen (k := 1) (n := 20) (by decide) (by decide) ?_
  refine va_putF (D := D) (ci := 5) (v := .ref q7) (ty := tyX5 0) (C := RX5) (T := TX5) (N := 3) hx hb hts iX5 tyX5 tyX5_ok nmX5 hown hK hP hD hS 0 rfl rfl 0 (by decide) f9 (fun _ h9 => h9) rfl hin rfl (tyX5_ok 0 (by decide)) rfl rfl (Nat.le_of_ble_eq_true rfl) dX5_init_9 (fun H locs hP hD hS => ?_)
  have hP : va_P D vwCl [(a_this, .inr (5, [.ref q7, .null, .int (0 : Int32)])), (q7, .inl (cI, 20, .inl (fun _ => 0)))] H := hP
  have hD : va_D A [(a_this, .inr (5, [.ref q7, .null, .int (0 : Int32)])), (q7, .inl (cI, 20, .inl (fun _ => 0)))] := hD
  refine lv_aload_n hx hb dX5_init_12 rfl (lv_at hl 0 rfl) ?_
  refine lv_bipush (v := 20) hx hb dX5_init_13 (by decide) ?_
  refine fx_newa (atype := .int) (ty := .int) (cT := cI) (a0 := (20, .inl (fun _ => 0))) hx hb acI rfl hK hP hD hS hA 0 rfl (by rfl) (fun _ => rfl) (by decide) (N' := 20) (by decide) (by decide) (by decide) (by decide) dX5_init_15 (fun q15 H hP hD hS => ?_)
  have hP : va_P D vwCl [(a_this, .inr (5, [.ref q7, .null, .int (0 : Int32)])), (q7, .inl (cI, 20, .inl (fun _ => 0))), (q15, .inl (cI, 20, .inl (fun _ => 0)))] H := hP
  have hD : va_D A [(a_this, .inr (5, [.ref q7, .null, .int (0 : Int32)])), (q7, .inl (cI, 20, .inl (fun _ => 0))), (q15, .inl (cI, 20, .inl (fun _ => 0)))] := hD
  refine W.widen (k := 2) (n := 40) (by decide) (by decide) ?_
  refine va_putF (D := D) (ci := 5) (v := .ref q15) (ty := tyX5 1) (C := RX5) (T := TX5) (N := 3) hx hb hts iX5 tyX5 tyX5_ok nmX5 hown hK hP hD hS 0 rfl rfl 1 (by decide) f15 (fun _ h9 => h9) rfl hin rfl (tyX5_ok 1 (by decide)) rfl rfl (Nat.le_of_ble_eq_true rfl) dX5_init_17 (fun H locs hP hD hS => ?_)
  have hP : va_P D vwCl [(a_this, .inr (5, [.ref q7, .ref q15, .int (0 : Int32)])), (q7, .inl (cI, 20, .inl (fun _ => 0))), (q15, .inl (cI, 20, .inl (fun _ => 0)))] H := hP
  have hD : va_D A [(a_this, .inr (5, [.ref q7, .ref q15, .int (0 : Int32)])), (q7, .inl (cI, 20, .inl (fun _ => 0))), (q15, .inl (cI, 20, .inl (fun _ => 0)))] := hD
  have hP := hP.sub (ws' := [(a_this, .inr (5, [.ref q7, .ref q15, .int (0 : Int32)])), (q7, .inl (cI, 20, .inl (fun _ => 0))), (q15, .inl (cI, 20, .inl (fun _ => 0)))]) [0, 1, 2] rfl
  have hD := hD.sub (ws' := [(a_this, .inr (5, [.ref q7, .ref q15, .int (0 : Int32)])), (q7, .inl (cI, 20, .inl (fun _ => 0))), (q15, .inl (cI, 20, .inl (fun _ => 0)))]) [0, 1, 2] (by decide) rfl
  exact hret _ _ _ _ (fun k => [q7, q15].getD k 0) _ dX5_init_20 rfl hP hD hS

abbrev rX0_init : Room := { frames := 2, cells := 8, slots := 64, locals := 44 }
theorem oi_X0_init : Cond.code objectInit ⟨#[0xb1]⟩ 1 none ∈ wsX0_init := List.mem_of_getElem? (i := 3) rfl
theorem n_X0_init_X0 : ∀ w ∈ wsX00, w ∈ wsX0_init := by decide +kernel
theorem n_X0_init_X2 : ∀ w ∈ wsX20, w ∈ wsX0_init := by decide +kernel
theorem n_X0_init_X5 : ∀ w ∈ wsX50, w ∈ wsX0_init := by decide +kernel
set_option maxHeartbeats 2000000 in
set_option maxRecDepth 100000 in
theorem k_X0_init (l : Launch) (G : fxE) (hG : fxGood G) (D : va_G) (cI cJ cZ cH : ClassId) (a_this : Nat) (hn9 : ∀ (A : Nat → Prop) (U : State), G A U → va_Nw (.methodLinkNest RX0 9 yX2_init "FrozeFirst") U) (hn18 : ∀ (A : Nat → Prop) (U : State), G A U → va_Nw (.methodLinkNest RX0 18 yX5_init "FrozeFirst") U) : MetN l yX0_init wsX0_init rX0_init G D (tyL cI cJ cZ cH) [.ref a_this] [(a_this, .inr (0, [.null, .null]))] (fun u => [(a_this, .inr (0, [.ref (u 0), .ref (u 5)])), ((u 0), .inr (2, [.ref (u 1), .ref (u 2), .ref (u 3), .ref (u 4)])), ((u 1), .inl (cI, 2, .inl (upd (upd (fun _ => 0) 0 (90 : Int32)) 1 (20 : Int32)))), ((u 2), .inl (cI, 2, .inl (upd (upd (fun _ => 0) 0 (100 : Int32)) 1 (100 : Int32)))), ((u 3), .inl (cJ, 2, .inr (.inl (vp_updL (vp_updL (fun _ => 0) 0 (123210000 : Int64)) 1 (123210000 : Int64))))), ((u 4), .inl (cI, 11, .inl (upd (upd (upd (upd (upd (upd (upd (upd (upd (upd (upd (fun _ => 0) 0 (10 : Int32)) 1 (4 : Int32)) 2 (8 : Int32)) 3 (12 : Int32)) 4 (2 : Int32)) 5 (10 : Int32)) 6 (8 : Int32)) 7 (40 : Int32)) 8 (20 : Int32)) 9 (1 : Int32)) 10 (7 : Int32)))), ((u 5), .inr (5, [.ref (u 6), .ref (u 7), .int (0 : Int32)])), ((u 6), .inl (cI, 20, .inl (fun _ => 0))), ((u 7), .inl (cI, 20, .inl (fun _ => 0)))]) 8 64 := by
  refine fx_startN (cc := cX0_init) (n := 1) (plainFor_of_name (by decide)) rfl (Nat.le_of_ble_eq_true rfl) rfl ?_
  intro p e s m args below meth c A Q ls hx hb hml hown hts hA hGs hK hP hD hS hl hin hret
  have hl : lv_has ls 1 [(0, .ref a_this)] := hl
  have iX0 := n_X0_init_X0
  have iX2 := n_X0_init_X2
  have iX5 := n_X0_init_X5
  have m1 := hts (.methodLink RX0 1 objectInit) (by decide +kernel)
  have moi := hts (.instanceMethod objectInit) (by decide +kernel)
  have cl7 := hts (.classLink RX0 7 RX2) (by decide +kernel)
  have inX2 := hts (.instantiable RX2 4) (by decide +kernel)
  have iniX2 := hts (.initialized RX2) (by decide +kernel)
  have imX2_init := hts (.instanceMethod yX2_init) (by decide +kernel)
  have f10 := hts (.fieldLink RX0 10 "FrozeFirst$Held" "night" "LFrozeFirst$Night;") (by decide +kernel)
  have cl16 := hts (.classLink RX0 16 RX5) (by decide +kernel)
  have inX5 := hts (.instantiable RX5 3) (by decide +kernel)
  have iniX5 := hts (.initialized RX5) (by decide +kernel)
  have imX5_init := hts (.instanceMethod yX5_init) (by decide +kernel)
  have f19 := hts (.fieldLink RX0 19 "FrozeFirst$Held" "tries" "LFrozeFirst$Tries;") (by decide +kernel)
  refine lv_aload_n hx hb dX0_init_0 rfl (lv_at hl 0 rfl) ?_
  refine W.objInit hx hb hown m1 moi (hts _ oi_X0_init) rfl (by rw [hml]; exact hl.1) rfl dX0_init_1 (Nat.le_of_ble_eq_true rfl) (Nat.le_of_ble_eq_true rfl) ?_
  refine W.eq (g2 := F0 m 4 ls []) rfl ?_
  refine lv_aload_n hx hb dX0_init_4 rfl (lv_at hl 0 rfl) ?_
  refine va_new (ci := 2) (fs := [.null, .null, .null, .null]) (C := RX2) (T := TX2) (N := 4) hx hb hts iX2 tyX2 tyX2_ok hown cl7 inX2 iniX2 hK hP hD hS hA rfl (fun j hj => by rcases (show j = 0 ∨ j = 1 ∨ j = 2 ∨ j = 3 by omega) with rfl | rfl | rfl | rfl <;> rfl) (by decide) (by decide) dX0_init_5 (fun q5 H hP hD hS => ?_)
  have hP : va_P D vwCl [(a_this, .inr (0, [.null, .null])), (q5, .inr (2, [.null, .null, .null, .null]))] H := hP
  have hD : va_D A [(a_this, .inr (0, [.null, .null])), (q5, .inr (2, [.null, .null, .null, .null]))] := hD
  refine W.widen (k := 1) (n := 4) (by decide) (by decide) ?_
  refine lv_dup hx hb dX0_init_8 rfl ?_
  refine fx_callIN (As := []) (rest := [.ref q5, .ref a_this]) (wr := [(a_this, .inr (0, [.null, .null]))]) ⟨hx, hb, hml, hown, hts⟩ hG hGs (k_X2_init l G hG D cI cJ cZ cH q5 ) ⟨va_cnB (host := "FrozeFirst") 0 hts gX0_init_X2_init_n9 rfl rfl rfl (hn9 _ _ hGs) iniX2 (by decide +kernel) ⟨by decide, by decide⟩, rfl, imX2_init⟩ hK hP hD hS hA [1] [0] rfl rfl (by decide) (by decide) (by decide) rfl rfl hl.1 (Nat.le_of_ble_eq_true rfl) dX0_init_9 (by decide) (by decide) (fun u9 H locs hP hD hS => ?_)
  have hP : va_P D vwCl [(a_this, .inr (0, [.null, .null])), (q5, .inr (2, [.ref (u9 0), .ref (u9 1), .ref (u9 2), .ref (u9 3)])), ((u9 0), .inl (cI, 2, .inl (upd (upd (fun _ => 0) 0 (90 : Int32)) 1 (20 : Int32)))), ((u9 1), .inl (cI, 2, .inl (upd (upd (fun _ => 0) 0 (100 : Int32)) 1 (100 : Int32)))), ((u9 2), .inl (cJ, 2, .inr (.inl (vp_updL (vp_updL (fun _ => 0) 0 (123210000 : Int64)) 1 (123210000 : Int64))))), ((u9 3), .inl (cI, 11, .inl (upd (upd (upd (upd (upd (upd (upd (upd (upd (upd (upd (fun _ => 0) 0 (10 : Int32)) 1 (4 : Int32)) 2 (8 : Int32)) 3 (12 : Int32)) 4 (2 : Int32)) 5 (10 : Int32)) 6 (8 : Int32)) 7 (40 : Int32)) 8 (20 : Int32)) 9 (1 : Int32)) 10 (7 : Int32))))] H := hP
  have hD : va_D A [(a_this, .inr (0, [.null, .null])), (q5, .inr (2, [.ref (u9 0), .ref (u9 1), .ref (u9 2), .ref (u9 3)])), ((u9 0), .inl (cI, 2, .inl (upd (upd (fun _ => 0) 0 (90 : Int32)) 1 (20 : Int32)))), ((u9 1), .inl (cI, 2, .inl (upd (upd (fun _ => 0) 0 (100 : Int32)) 1 (100 : Int32)))), ((u9 2), .inl (cJ, 2, .inr (.inl (vp_updL (vp_updL (fun _ => 0) 0 (123210000 : Int64)) 1 (123210000 : Int64))))), ((u9 3), .inl (cI, 11, .inl (upd (upd (upd (upd (upd (upd (upd (upd (upd (upd (upd (fun _ => 0) 0 (10 : Int32)) 1 (4 : Int32)) 2 (8 : Int32)) 3 (12 : Int32)) 4 (2 : Int32)) 5 (10 : Int32)) 6 (8 : Int32)) 7 (40 : Int32)) 8 (20 : Int32)) 9 (1 : Int32)) 10 (7 : Int32))))] := hD
  refine W.widen (k := 5) (n := 21) (by decide) (by decide) ?_
  refine va_putF (D := D) (ci := 0) (v := .ref q5) (ty := tyX0 0) (C := RX0) (T := TX0) (N := 2) hx hb hts iX0 tyX0 tyX0_ok nmX0 hown hK hP hD hS 0 rfl rfl 0 (by decide) f10 (fun _ h9 => h9) rfl hin rfl (tyX0_ok 0 (by decide)) rfl rfl (Nat.le_of_ble_eq_true rfl) dX0_init_12 (fun H locs hP hD hS => ?_)
  have hP : va_P D vwCl [(a_this, .inr (0, [.ref q5, .null])), (q5, .inr (2, [.ref (u9 0), .ref (u9 1), .ref (u9 2), .ref (u9 3)])), ((u9 0), .inl (cI, 2, .inl (upd (upd (fun _ => 0) 0 (90 : Int32)) 1 (20 : Int32)))), ((u9 1), .inl (cI, 2, .inl (upd (upd (fun _ => 0) 0 (100 : Int32)) 1 (100 : Int32)))), ((u9 2), .inl (cJ, 2, .inr (.inl (vp_updL (vp_updL (fun _ => 0) 0 (123210000 : Int64)) 1 (123210000 : Int64))))), ((u9 3), .inl (cI, 11, .inl (upd (upd (upd (upd (upd (upd (upd (upd (upd (upd (upd (fun _ => 0) 0 (10 : Int32)) 1 (4 : Int32)) 2 (8 : Int32)) 3 (12 : Int32)) 4 (2 : Int32)) 5 (10 : Int32)) 6 (8 : Int32)) 7 (40 : Int32)) 8 (20 : Int32)) 9 (1 : Int32)) 10 (7 : Int32))))] H := hP
  have hD : va_D A [(a_this, .inr (0, [.ref q5, .null])), (q5, .inr (2, [.ref (u9 0), .ref (u9 1), .ref (u9 2), .ref (u9 3)])), ((u9 0), .inl (cI, 2, .inl (upd (upd (fun _ => 0) 0 (90 : Int32)) 1 (20 : Int32)))), ((u9 1), .inl (cI, 2, .inl (upd (upd (fun _ => 0) 0 (100 : Int32)) 1 (100 : Int32)))), ((u9 2), .inl (cJ, 2, .inr (.inl (vp_updL (vp_updL (fun _ => 0) 0 (123210000 : Int64)) 1 (123210000 : Int64))))), ((u9 3), .inl (cI, 11, .inl (upd (upd (upd (upd (upd (upd (upd (upd (upd (upd (upd (fun _ => 0) 0 (10 : Int32)) 1 (4 : Int32)) 2 (8 : Int32)) 3 (12 : Int32)) 4 (2 : Int32)) 5 (10 : Int32)) 6 (8 : Int32)) 7 (40 : Int32)) 8 (20 : Int32)) 9 (1 : Int32)) 10 (7 : Int32))))] := hD
  refine lv_aload_n hx hb dX0_init_15 rfl (lv_at hl 0 rfl) ?_
  refine va_new (ci := 5) (fs := [.null, .null, .int (0 : Int32)]) (C := RX5) (T := TX5) (N := 3) hx hb hts iX5 tyX5 tyX5_ok hown cl16 inX5 iniX5 hK hP hD hS hA rfl (fun j hj => by rcases (show j = 0 ∨ j = 1 ∨ j = 2 by omega) with rfl | rfl | rfl <;> rfl) (by decide) (by decide) dX0_init_16 (fun q16 H hP hD hS => ?_)
  have hP : va_P D vwCl [(a_this, .inr (0, [.ref q5, .null])), (q5, .inr (2, [.ref (u9 0), .ref (u9 1), .ref (u9 2), .ref (u9 3)])), ((u9 0), .inl (cI, 2, .inl (upd (upd (fun _ => 0) 0 (90 : Int32)) 1 (20 : Int32)))), ((u9 1), .inl (cI, 2, .inl (upd (upd (fun _ => 0) 0 (100 : Int32)) 1 (100 : Int32)))), ((u9 2), .inl (cJ, 2, .inr (.inl (vp_updL (vp_updL (fun _ => 0) 0 (123210000 : Int64)) 1 (123210000 : Int64))))), ((u9 3), .inl (cI, 11, .inl (upd (upd (upd (upd (upd (upd (upd (upd (upd (upd (upd (fun _ => 0) 0 (10 : Int32)) 1 (4 : Int32)) 2 (8 : Int32)) 3 (12 : Int32)) 4 (2 : Int32)) 5 (10 : Int32)) 6 (8 : Int32)) 7 (40 : Int32)) 8 (20 : Int32)) 9 (1 : Int32)) 10 (7 : Int32)))), (q16, .inr (5, [.null, .null, .int (0 : Int32)]))] H := hP
  have hD : va_D A [(a_this, .inr (0, [.ref q5, .null])), (q5, .inr (2, [.ref (u9 0), .ref (u9 1), .ref (u9 2), .ref (u9 3)])), ((u9 0), .inl (cI, 2, .inl (upd (upd (fun _ => 0) 0 (90 : Int32)) 1 (20 : Int32)))), ((u9 1), .inl (cI, 2, .inl (upd (upd (fun _ => 0) 0 (100 : Int32)) 1 (100 : Int32)))), ((u9 2), .inl (cJ, 2, .inr (.inl (vp_updL (vp_updL (fun _ => 0) 0 (123210000 : Int64)) 1 (123210000 : Int64))))), ((u9 3), .inl (cI, 11, .inl (upd (upd (upd (upd (upd (upd (upd (upd (upd (upd (upd (fun _ => 0) 0 (10 : Int32)) 1 (4 : Int32)) 2 (8 : Int32)) 3 (12 : Int32)) 4 (2 : Int32)) 5 (10 : Int32)) 6 (8 : Int32)) 7 (40 : Int32)) 8 (20 : Int32)) 9 (1 : Int32)) 10 (7 : Int32)))), (q16, .inr (5, [.null, .null, .int (0 : Int32)]))] := hD
  refine W.widen (k := 6) (n := 24) (by decide) (by decide) ?_
  refine lv_dup hx hb dX0_init_19 rfl ?_
  refine fx_callIN (As := []) (rest := [.ref q16, .ref a_this]) (wr := [(a_this, .inr (0, [.ref q5, .null])), (q5, .inr (2, [.ref (u9 0), .ref (u9 1), .ref (u9 2), .ref (u9 3)])), ((u9 0), .inl (cI, 2, .inl (upd (upd (fun _ => 0) 0 (90 : Int32)) 1 (20 : Int32)))), ((u9 1), .inl (cI, 2, .inl (upd (upd (fun _ => 0) 0 (100 : Int32)) 1 (100 : Int32)))), ((u9 2), .inl (cJ, 2, .inr (.inl (vp_updL (vp_updL (fun _ => 0) 0 (123210000 : Int64)) 1 (123210000 : Int64))))), ((u9 3), .inl (cI, 11, .inl (upd (upd (upd (upd (upd (upd (upd (upd (upd (upd (upd (fun _ => 0) 0 (10 : Int32)) 1 (4 : Int32)) 2 (8 : Int32)) 3 (12 : Int32)) 4 (2 : Int32)) 5 (10 : Int32)) 6 (8 : Int32)) 7 (40 : Int32)) 8 (20 : Int32)) 9 (1 : Int32)) 10 (7 : Int32))))]) ⟨hx, hb, hml, hown, hts⟩ hG hGs (k_X5_init l G hG D cI cJ cZ cH q16 ) ⟨va_cnB (host := "FrozeFirst") 0 hts gX0_init_X5_init_n18 rfl rfl rfl (hn18 _ _ hGs) iniX5 (by decide +kernel) ⟨by decide, by decide⟩, rfl, imX5_init⟩ hK hP hD hS hA [6] [0, 1, 2, 3, 4, 5] rfl rfl (by decide) (by decide) (by decide) rfl rfl hl.1 (Nat.le_of_ble_eq_true rfl) dX0_init_20 (by decide) (by decide) (fun u20 H locs hP hD hS => ?_)
  have hP : va_P D vwCl [(a_this, .inr (0, [.ref q5, .null])), (q5, .inr (2, [.ref (u9 0), .ref (u9 1), .ref (u9 2), .ref (u9 3)])), ((u9 0), .inl (cI, 2, .inl (upd (upd (fun _ => 0) 0 (90 : Int32)) 1 (20 : Int32)))), ((u9 1), .inl (cI, 2, .inl (upd (upd (fun _ => 0) 0 (100 : Int32)) 1 (100 : Int32)))), ((u9 2), .inl (cJ, 2, .inr (.inl (vp_updL (vp_updL (fun _ => 0) 0 (123210000 : Int64)) 1 (123210000 : Int64))))), ((u9 3), .inl (cI, 11, .inl (upd (upd (upd (upd (upd (upd (upd (upd (upd (upd (upd (fun _ => 0) 0 (10 : Int32)) 1 (4 : Int32)) 2 (8 : Int32)) 3 (12 : Int32)) 4 (2 : Int32)) 5 (10 : Int32)) 6 (8 : Int32)) 7 (40 : Int32)) 8 (20 : Int32)) 9 (1 : Int32)) 10 (7 : Int32)))), (q16, .inr (5, [.ref (u20 0), .ref (u20 1), .int (0 : Int32)])), ((u20 0), .inl (cI, 20, .inl (fun _ => 0))), ((u20 1), .inl (cI, 20, .inl (fun _ => 0)))] H := hP
  have hD : va_D A [(a_this, .inr (0, [.ref q5, .null])), (q5, .inr (2, [.ref (u9 0), .ref (u9 1), .ref (u9 2), .ref (u9 3)])), ((u9 0), .inl (cI, 2, .inl (upd (upd (fun _ => 0) 0 (90 : Int32)) 1 (20 : Int32)))), ((u9 1), .inl (cI, 2, .inl (upd (upd (fun _ => 0) 0 (100 : Int32)) 1 (100 : Int32)))), ((u9 2), .inl (cJ, 2, .inr (.inl (vp_updL (vp_updL (fun _ => 0) 0 (123210000 : Int64)) 1 (123210000 : Int64))))), ((u9 3), .inl (cI, 11, .inl (upd (upd (upd (upd (upd (upd (upd (upd (upd (upd (upd (fun _ => 0) 0 (10 : Int32)) 1 (4 : Int32)) 2 (8 : Int32)) 3 (12 : Int32)) 4 (2 : Int32)) 5 (10 : Int32)) 6 (8 : Int32)) 7 (40 : Int32)) 8 (20 : Int32)) 9 (1 : Int32)) 10 (7 : Int32)))), (q16, .inr (5, [.ref (u20 0), .ref (u20 1), .int (0 : Int32)])), ((u20 0), .inl (cI, 20, .inl (fun _ => 0))), ((u20 1), .inl (cI, 20, .inl (fun _ => 0)))] := hD
  refine W.widen (k := 8) (n := 64) (by decide) (by decide) ?_
  refine va_putF (D := D) (ci := 0) (v := .ref q16) (ty := tyX0 1) (C := RX0) (T := TX0) (N := 2) hx hb hts iX0 tyX0 tyX0_ok nmX0 hown hK hP hD hS 0 rfl rfl 1 (by decide) f19 (fun _ h9 => h9) rfl hin rfl (tyX0_ok 1 (by decide)) rfl rfl (Nat.le_of_ble_eq_true rfl) dX0_init_23 (fun H locs hP hD hS => ?_)
  have hP : va_P D vwCl [(a_this, .inr (0, [.ref q5, .ref q16])), (q5, .inr (2, [.ref (u9 0), .ref (u9 1), .ref (u9 2), .ref (u9 3)])), ((u9 0), .inl (cI, 2, .inl (upd (upd (fun _ => 0) 0 (90 : Int32)) 1 (20 : Int32)))), ((u9 1), .inl (cI, 2, .inl (upd (upd (fun _ => 0) 0 (100 : Int32)) 1 (100 : Int32)))), ((u9 2), .inl (cJ, 2, .inr (.inl (vp_updL (vp_updL (fun _ => 0) 0 (123210000 : Int64)) 1 (123210000 : Int64))))), ((u9 3), .inl (cI, 11, .inl (upd (upd (upd (upd (upd (upd (upd (upd (upd (upd (upd (fun _ => 0) 0 (10 : Int32)) 1 (4 : Int32)) 2 (8 : Int32)) 3 (12 : Int32)) 4 (2 : Int32)) 5 (10 : Int32)) 6 (8 : Int32)) 7 (40 : Int32)) 8 (20 : Int32)) 9 (1 : Int32)) 10 (7 : Int32)))), (q16, .inr (5, [.ref (u20 0), .ref (u20 1), .int (0 : Int32)])), ((u20 0), .inl (cI, 20, .inl (fun _ => 0))), ((u20 1), .inl (cI, 20, .inl (fun _ => 0)))] H := hP
  have hD : va_D A [(a_this, .inr (0, [.ref q5, .ref q16])), (q5, .inr (2, [.ref (u9 0), .ref (u9 1), .ref (u9 2), .ref (u9 3)])), ((u9 0), .inl (cI, 2, .inl (upd (upd (fun _ => 0) 0 (90 : Int32)) 1 (20 : Int32)))), ((u9 1), .inl (cI, 2, .inl (upd (upd (fun _ => 0) 0 (100 : Int32)) 1 (100 : Int32)))), ((u9 2), .inl (cJ, 2, .inr (.inl (vp_updL (vp_updL (fun _ => 0) 0 (123210000 : Int64)) 1 (123210000 : Int64))))), ((u9 3), .inl (cI, 11, .inl (upd (upd (upd (upd (upd (upd (upd (upd (upd (upd (upd (fun _ => 0) 0 (10 : Int32)) 1 (4 : Int32)) 2 (8 : Int32)) 3 (12 : Int32)) 4 (2 : Int32)) 5 (10 : Int32)) 6 (8 : Int32)) 7 (40 : Int32)) 8 (20 : Int32)) 9 (1 : Int32)) 10 (7 : Int32)))), (q16, .inr (5, [.ref (u20 0), .ref (u20 1), .int (0 : Int32)])), ((u20 0), .inl (cI, 20, .inl (fun _ => 0))), ((u20 1), .inl (cI, 20, .inl (fun _ => 0)))] := hD
  have hP := hP.sub (ws' := [(a_this, .inr (0, [.ref q5, .ref q16])), (q5, .inr (2, [.ref (u9 0), .ref (u9 1), .ref (u9 2), .ref (u9 3)])), ((u9 0), .inl (cI, 2, .inl (upd (upd (fun _ => 0) 0 (90 : Int32)) 1 (20 : Int32)))), ((u9 1), .inl (cI, 2, .inl (upd (upd (fun _ => 0) 0 (100 : Int32)) 1 (100 : Int32)))), ((u9 2), .inl (cJ, 2, .inr (.inl (vp_updL (vp_updL (fun _ => 0) 0 (123210000 : Int64)) 1 (123210000 : Int64))))), ((u9 3), .inl (cI, 11, .inl (upd (upd (upd (upd (upd (upd (upd (upd (upd (upd (upd (fun _ => 0) 0 (10 : Int32)) 1 (4 : Int32)) 2 (8 : Int32)) 3 (12 : Int32)) 4 (2 : Int32)) 5 (10 : Int32)) 6 (8 : Int32)) 7 (40 : Int32)) 8 (20 : Int32)) 9 (1 : Int32)) 10 (7 : Int32)))), (q16, .inr (5, [.ref (u20 0), .ref (u20 1), .int (0 : Int32)])), ((u20 0), .inl (cI, 20, .inl (fun _ => 0))), ((u20 1), .inl (cI, 20, .inl (fun _ => 0)))]) [0, 1, 2, 3, 4, 5, 6, 7, 8] rfl
  have hD := hD.sub (ws' := [(a_this, .inr (0, [.ref q5, .ref q16])), (q5, .inr (2, [.ref (u9 0), .ref (u9 1), .ref (u9 2), .ref (u9 3)])), ((u9 0), .inl (cI, 2, .inl (upd (upd (fun _ => 0) 0 (90 : Int32)) 1 (20 : Int32)))), ((u9 1), .inl (cI, 2, .inl (upd (upd (fun _ => 0) 0 (100 : Int32)) 1 (100 : Int32)))), ((u9 2), .inl (cJ, 2, .inr (.inl (vp_updL (vp_updL (fun _ => 0) 0 (123210000 : Int64)) 1 (123210000 : Int64))))), ((u9 3), .inl (cI, 11, .inl (upd (upd (upd (upd (upd (upd (upd (upd (upd (upd (upd (fun _ => 0) 0 (10 : Int32)) 1 (4 : Int32)) 2 (8 : Int32)) 3 (12 : Int32)) 4 (2 : Int32)) 5 (10 : Int32)) 6 (8 : Int32)) 7 (40 : Int32)) 8 (20 : Int32)) 9 (1 : Int32)) 10 (7 : Int32)))), (q16, .inr (5, [.ref (u20 0), .ref (u20 1), .int (0 : Int32)])), ((u20 0), .inl (cI, 20, .inl (fun _ => 0))), ((u20 1), .inl (cI, 20, .inl (fun _ => 0)))]) [0, 1, 2, 3, 4, 5, 6, 7, 8] (by decide) rfl
  exact hret _ _ _ _ (fun k => [q5, (u9 0), (u9 1), (u9 2), (u9 3), q16, (u20 0), (u20 1)].getD k 0) _ dX0_init_26 rfl hP hD hS

abbrev rX4_init : Room := { frames := 2, cells := 4, slots := 103, locals := 44 }
theorem oi_X4_init : Cond.code objectInit ⟨#[0xb1]⟩ 1 none ∈ wsX4_init := List.mem_of_getElem? (i := 3) rfl
theorem n_X4_init_X4 : ∀ w ∈ wsX40, w ∈ wsX4_init := by decide +kernel
theorem n_X4_init_X5 : ∀ w ∈ wsX50, w ∈ wsX4_init := by decide +kernel
set_option maxHeartbeats 2000000 in
set_option maxRecDepth 100000 in
theorem k_X4_init (l : Launch) (G : fxE) (hG : fxGood G) (D : va_G) (cI cJ cZ cH : ClassId) (a_this : Nat) (hn11 : ∀ (A : Nat → Prop) (U : State), G A U → va_Nw (.methodLinkNest RX4 11 yX5_init "FrozeFirst") U) : MetN l yX4_init wsX4_init rX4_init G D (tyL cI cJ cZ cH) [.ref a_this] [(a_this, .inr (4, [.null, .int (0 : Int32), .null, .int (0 : Int32), .int (0 : Int32)]))] (fun u => [(a_this, .inr (4, [.ref (u 0), .int (0 : Int32), .ref (u 3), .int (0 : Int32), .int (0 : Int32)])), ((u 0), .inr (5, [.ref (u 1), .ref (u 2), .int (0 : Int32)])), ((u 1), .inl (cI, 20, .inl (fun _ => 0))), ((u 2), .inl (cI, 20, .inl (fun _ => 0))), ((u 3), .inl (cI, 60, .inl (fun _ => 0)))]) 4 103 := by
  refine fx_startN (cc := cX4_init) (n := 1) (plainFor_of_name (by decide)) rfl (Nat.le_of_ble_eq_true rfl) rfl ?_
  intro p e s m args below meth c A Q ls hx hb hml hown hts hA hGs hK hP hD hS hl hin hret
  have hl : lv_has ls 1 [(0, .ref a_this)] := hl
  have iX4 := n_X4_init_X4
  have iX5 := n_X4_init_X5
  have m3 := hts (.methodLink RX4 3 objectInit) (by decide +kernel)
  have moi := hts (.instanceMethod objectInit) (by decide +kernel)
  have cl9 := hts (.classLink RX4 9 RX5) (by decide +kernel)
  have inX5 := hts (.instantiable RX5 3) (by decide +kernel)
  have iniX5 := hts (.initialized RX5) (by decide +kernel)
  have imX5_init := hts (.instanceMethod yX5_init) (by decide +kernel)
  have f12 := hts (.fieldLink RX4 12 "FrozeFirst$Signs" "found" "LFrozeFirst$Tries;") (by decide +kernel)
  have acI := hts (.arrayClass .int) (by decide +kernel)
  have f18 := hts (.fieldLink RX4 18 "FrozeFirst$Signs" "codes" "[I") (by decide +kernel)
  refine lv_aload_n hx hb dX4_init_0 rfl (lv_at hl 0 rfl) ?_
  refine W.objInit hx hb hown m3 moi (hts _ oi_X4_init) rfl (by rw [hml]; exact hl.1) rfl dX4_init_1 (Nat.le_of_ble_eq_true rfl) (Nat.le_of_ble_eq_true rfl) ?_
  refine W.eq (g2 := F0 m 4 ls []) rfl ?_
  refine lv_aload_n hx hb dX4_init_4 rfl (lv_at hl 0 rfl) ?_
  refine va_new (ci := 5) (fs := [.null, .null, .int (0 : Int32)]) (C := RX5) (T := TX5) (N := 3) hx hb hts iX5 tyX5 tyX5_ok hown cl9 inX5 iniX5 hK hP hD hS hA rfl (fun j hj => by rcases (show j = 0 ∨ j = 1 ∨ j = 2 by omega) with rfl | rfl | rfl <;> rfl) (by decide) (by decide) dX4_init_5 (fun q5 H hP hD hS => ?_)
  have hP : va_P D vwCl [(a_this, .inr (4, [.null, .int (0 : Int32), .null, .int (0 : Int32), .int (0 : Int32)])), (q5, .inr (5, [.null, .null, .int (0 : Int32)]))] H := hP
  have hD : va_D A [(a_this, .inr (4, [.null, .int (0 : Int32), .null, .int (0 : Int32), .int (0 : Int32)])), (q5, .inr (5, [.null, .null, .int (0 : Int32)]))] := hD
  refine W.widen (k := 1) (n := 3) (by decide) (by decide) ?_
  refine lv_dup hx hb dX4_init_8 rfl ?_
  refine fx_callIN (As := []) (rest := [.ref q5, .ref a_this]) (wr := [(a_this, .inr (4, [.null, .int (0 : Int32), .null, .int (0 : Int32), .int (0 : Int32)]))]) ⟨hx, hb, hml, hown, hts⟩ hG hGs (k_X5_init l G hG D cI cJ cZ cH q5 ) ⟨va_cnB (host := "FrozeFirst") 0 hts gX4_init_X5_init_n11 rfl rfl rfl (hn11 _ _ hGs) iniX5 (by decide +kernel) ⟨by decide, by decide⟩, rfl, imX5_init⟩ hK hP hD hS hA [1] [0] rfl rfl (by decide) (by decide) (by decide) rfl rfl hl.1 (Nat.le_of_ble_eq_true rfl) dX4_init_9 (by decide) (by decide) (fun u9 H locs hP hD hS => ?_)
  have hP : va_P D vwCl [(a_this, .inr (4, [.null, .int (0 : Int32), .null, .int (0 : Int32), .int (0 : Int32)])), (q5, .inr (5, [.ref (u9 0), .ref (u9 1), .int (0 : Int32)])), ((u9 0), .inl (cI, 20, .inl (fun _ => 0))), ((u9 1), .inl (cI, 20, .inl (fun _ => 0)))] H := hP
  have hD : va_D A [(a_this, .inr (4, [.null, .int (0 : Int32), .null, .int (0 : Int32), .int (0 : Int32)])), (q5, .inr (5, [.ref (u9 0), .ref (u9 1), .int (0 : Int32)])), ((u9 0), .inl (cI, 20, .inl (fun _ => 0))), ((u9 1), .inl (cI, 20, .inl (fun _ => 0)))] := hD
  refine W.widen (k := 3) (n := 43) (by decide) (by decide) ?_
  refine va_putF (D := D) (ci := 4) (v := .ref q5) (ty := tyX4 0) (C := RX4) (T := TX4) (N := 5) hx hb hts iX4 tyX4 tyX4_ok nmX4 hown hK hP hD hS 0 rfl rfl 0 (by decide) f12 (fun _ h9 => h9) rfl hin rfl (tyX4_ok 0 (by decide)) rfl rfl (Nat.le_of_ble_eq_true rfl) dX4_init_12 (fun H locs hP hD hS => ?_)
  have hP : va_P D vwCl [(a_this, .inr (4, [.ref q5, .int (0 : Int32), .null, .int (0 : Int32), .int (0 : Int32)])), (q5, .inr (5, [.ref (u9 0), .ref (u9 1), .int (0 : Int32)])), ((u9 0), .inl (cI, 20, .inl (fun _ => 0))), ((u9 1), .inl (cI, 20, .inl (fun _ => 0)))] H := hP
  have hD : va_D A [(a_this, .inr (4, [.ref q5, .int (0 : Int32), .null, .int (0 : Int32), .int (0 : Int32)])), (q5, .inr (5, [.ref (u9 0), .ref (u9 1), .int (0 : Int32)])), ((u9 0), .inl (cI, 20, .inl (fun _ => 0))), ((u9 1), .inl (cI, 20, .inl (fun _ => 0)))] := hD
  refine lv_aload_n hx hb dX4_init_15 rfl (lv_at hl 0 rfl) ?_
  refine lv_bipush (v := 60) hx hb dX4_init_16 (by decide) ?_
  refine fx_newa (atype := .int) (ty := .int) (cT := cI) (a0 := (60, .inl (fun _ => 0))) hx hb acI rfl hK hP hD hS hA 0 rfl (by rfl) (fun _ => rfl) (by decide) (N' := 60) (by decide) (by decide) (by decide) (by decide) dX4_init_18 (fun q18 H hP hD hS => ?_)
  have hP : va_P D vwCl [(a_this, .inr (4, [.ref q5, .int (0 : Int32), .null, .int (0 : Int32), .int (0 : Int32)])), (q5, .inr (5, [.ref (u9 0), .ref (u9 1), .int (0 : Int32)])), ((u9 0), .inl (cI, 20, .inl (fun _ => 0))), ((u9 1), .inl (cI, 20, .inl (fun _ => 0))), (q18, .inl (cI, 60, .inl (fun _ => 0)))] H := hP
  have hD : va_D A [(a_this, .inr (4, [.ref q5, .int (0 : Int32), .null, .int (0 : Int32), .int (0 : Int32)])), (q5, .inr (5, [.ref (u9 0), .ref (u9 1), .int (0 : Int32)])), ((u9 0), .inl (cI, 20, .inl (fun _ => 0))), ((u9 1), .inl (cI, 20, .inl (fun _ => 0))), (q18, .inl (cI, 60, .inl (fun _ => 0)))] := hD
  refine W.widen (k := 4) (n := 103) (by decide) (by decide) ?_
  refine va_putF (D := D) (ci := 4) (v := .ref q18) (ty := tyX4 2) (C := RX4) (T := TX4) (N := 5) hx hb hts iX4 tyX4 tyX4_ok nmX4 hown hK hP hD hS 0 rfl rfl 2 (by decide) f18 (fun _ h9 => h9) rfl hin rfl (tyX4_ok 2 (by decide)) rfl rfl (Nat.le_of_ble_eq_true rfl) dX4_init_20 (fun H locs hP hD hS => ?_)
  have hP : va_P D vwCl [(a_this, .inr (4, [.ref q5, .int (0 : Int32), .ref q18, .int (0 : Int32), .int (0 : Int32)])), (q5, .inr (5, [.ref (u9 0), .ref (u9 1), .int (0 : Int32)])), ((u9 0), .inl (cI, 20, .inl (fun _ => 0))), ((u9 1), .inl (cI, 20, .inl (fun _ => 0))), (q18, .inl (cI, 60, .inl (fun _ => 0)))] H := hP
  have hD : va_D A [(a_this, .inr (4, [.ref q5, .int (0 : Int32), .ref q18, .int (0 : Int32), .int (0 : Int32)])), (q5, .inr (5, [.ref (u9 0), .ref (u9 1), .int (0 : Int32)])), ((u9 0), .inl (cI, 20, .inl (fun _ => 0))), ((u9 1), .inl (cI, 20, .inl (fun _ => 0))), (q18, .inl (cI, 60, .inl (fun _ => 0)))] := hD
  have hP := hP.sub (ws' := [(a_this, .inr (4, [.ref q5, .int (0 : Int32), .ref q18, .int (0 : Int32), .int (0 : Int32)])), (q5, .inr (5, [.ref (u9 0), .ref (u9 1), .int (0 : Int32)])), ((u9 0), .inl (cI, 20, .inl (fun _ => 0))), ((u9 1), .inl (cI, 20, .inl (fun _ => 0))), (q18, .inl (cI, 60, .inl (fun _ => 0)))]) [0, 1, 2, 3, 4] rfl
  have hD := hD.sub (ws' := [(a_this, .inr (4, [.ref q5, .int (0 : Int32), .ref q18, .int (0 : Int32), .int (0 : Int32)])), (q5, .inr (5, [.ref (u9 0), .ref (u9 1), .int (0 : Int32)])), ((u9 0), .inl (cI, 20, .inl (fun _ => 0))), ((u9 1), .inl (cI, 20, .inl (fun _ => 0))), (q18, .inl (cI, 60, .inl (fun _ => 0)))]) [0, 1, 2, 3, 4] (by decide) rfl
  exact hret _ _ _ _ (fun k => [q5, (u9 0), (u9 1), q18].getD k 0) _ dX4_init_23 rfl hP hD hS
