/-! what the law's start gives beside its cells: two texts, two tables, the flags, links between nest mates -/
def lwF (q v N : Nat) (f : Nat → Int32) (A : Nat → Prop) (U : State) : Prop := va_O "java/lang/String" q A U U.heap ∧ va_OF "java/lang/String" "coder" "B" (.int 0) q A U U.heap ∧ va_OF "java/lang/String" "value" "[B" (.ref v) q A U U.heap ∧ va_T .byte v N (fun j => .int (f j)) A U U.heap
def lwT (n : String) (t : Nat) (f : Nat → Int32) (A : Nat → Prop) (U : State) : Prop := va_Z "FrozeFirst" n "[I" (.ref t) A U U.heap ∧ va_T .int t 11 (fun j => .int (f j)) A U U.heap
def lwN : List (String × Nat × MethodName) := [(RX3, 52, yX6_within), (RX6, 9, yX0_init), (RX6, 26, yX3_init), (RX6, 33, yX1_init), (RX6, 43, yX4_init), (RX0, 9, yX2_init), (RX0, 18, yX5_init), (RX4, 11, yX5_init)]
def lwG (k_E w_E k_L w_L t_L t_M : Nat) : fxE := fun A U => lwF k_E w_E 3 fy_ends A U ∧ lwF k_L w_L 4 fy_lets A U ∧ va_Z "java/lang/String" "COMPACT_STRINGS" "Z" (.int 1) A U U.heap ∧ lwT "LEAST_ALIKE" t_L fy_least A U ∧ lwT "MOST_ALIKE" t_M fy_most A U ∧ vk_R RX4 40 "><=" k_E U ∧ vk_R RX4 55 "srtn" k_L U ∧ (∀ q ∈ lwN, va_Nw (.methodLinkNest q.1 q.2.1 q.2.2 "FrozeFirst") U) ∧ va_AO RX0 U
theorem lwF_mv {q v N : Nat} {f : Nat → Int32} {A A' : Nat → Prop} {s U : State} (h : lwF q v N f A s) (hq : ∀ a : Nat, a < s.heap.size → ¬ A a → U.heap[a]? = s.heap[a]?) (hAB : ∀ q, A' q → A q) (hvm : s.vm.Alike U.vm) : lwF q v N f A' U :=
  ⟨((va_O.moved hvm h.1).kept hq).narrow hAB, ((va_OF.moved hvm h.2.1).kept hq).narrow hAB, ((va_OF.moved hvm h.2.2.1).kept hq).narrow hAB, ((va_T.moved hvm h.2.2.2).kept hq).narrow hAB⟩
theorem lwT_mv {n : String} {t : Nat} {f : Nat → Int32} {A A' : Nat → Prop} {s U : State} (h : lwT n t f A s) (hq : ∀ a : Nat, a < s.heap.size → ¬ A a → U.heap[a]? = s.heap[a]?) (hAB : ∀ q, A' q → A q) (hvm : s.vm.Alike U.vm) : lwT n t f A' U :=
  ⟨((va_Z.moved hvm h.1).kept hq).narrow hAB, ((va_T.moved hvm h.2).kept hq).narrow hAB⟩
theorem lwG_mv {k_E w_E k_L w_L t_L t_M : Nat} {A A' : Nat → Prop} {s U : State} (h : lwG k_E w_E k_L w_L t_L t_M A s) (hq : ∀ a : Nat, a < s.heap.size → ¬ A a → U.heap[a]? = s.heap[a]?) (hAB : ∀ q, A' q → A q) (hvm : s.vm.Alike U.vm)
    (hk : ∀ (own tx : String) (k a : Nat), vk_R own k tx a s → vk_R own k tx a U) (hn : ∀ (a : String) (i : Nat) (x : MethodName) (o : String), va_Nw (.methodLinkNest a i x o) s → va_Nw (.methodLinkNest a i x o) U) : lwG k_E w_E k_L w_L t_L t_M A' U := by
  obtain ⟨h1, h2, h3, h4, h5, h6, h7, h8, h9⟩ := h
  exact ⟨lwF_mv h1 hq hAB hvm, lwF_mv h2 hq hAB hvm, ((va_Z.moved hvm h3).kept hq).narrow hAB, lwT_mv h4 hq hAB hvm, lwT_mv h5 hq hAB hvm, hk _ _ _ _ h6, hk _ _ _ _ h7, fun q m => hn _ _ _ _ (h8 q m), va_AO.moved hvm h9⟩
theorem lwG_good (k_E w_E k_L w_L t_L t_M : Nat) : fxGood (lwG k_E w_E k_L w_L t_L t_M) := by
  refine ⟨?_, ?_, ?_⟩
  · intro A A' s U H locs h hS hAB hU hW
    subst hU
    exact lwG_mv h hS.2.1 hAB hW.alike (fun own tx k a r => vk_R.warm hW r) (fun a i x o r => va_Nw.warmM hW r)
  · intro A U g mk a h
    exact lwG_mv (s := U) (U := U.calling g mk a) h (fun _ _ _ => rfl) (fun _ z => z) (Vm.Alike.refl U.vm) (fun own tx k b r => vk_R.same (u := U) rfl r) (fun b i x o r => va_Nw.same rfl (u := U) rfl r)
  · intro A U h
    exact h.2.2.2.2.2.2.2.1 (RX3, 52, yX6_within) List.mem_cons_self
theorem lw_str {args : Array Value} {s : State} {tm : Term} {N : Nat} {f : Nat → Int32} {A : Nat → Prop} (hN : N < 2 ^ 31) (hex : (Cond.exactly tm "java/lang/String").before args s = true) (hco : (Cond.eq (.field tm "java/lang/String" "coder" "B") (.int 0)).before args s = true)
    (har : (Cond.arrayOf (.field tm "java/lang/String" "value" "[B") .byte).before args s = true) (hle : (Cond.eq (.length (.field tm "java/lang/String" "value" "[B")) (.int (Int32.ofNat N))).before args s = true)
    (hel : ∀ j : Nat, j < N → (Cond.eq (.elem (.field tm "java/lang/String" "value" "[B") (.int (Int32.ofNat j))) (.int (f j))).before args s = true) (hA : ∀ a : Nat, a < s.heap.size → ¬ A a) :
    ∃ q v : Nat, tm.eval args s none [] s = some (.ref q) ∧ lwF q v N f A s := by
  obtain ⟨a, c, cA, kA, q1, q2, q3, q4, q5, q6, -⟩ := Cond.exactly_spec (args := args) (first := s) (o := none) (s := s) (idx := []) (t := tm) (cls := "java/lang/String") hex
  obtain ⟨t, ht, hT⟩ := va_Tof (f := fun j => .int (f j)) (A := A) hN har (va_eqt hle) (fun j hj => va_eqt (hel j hj)) hA
  exact ⟨a, t, q1, ⟨cA, q3, q5, by rw [q6]; exact q2, hA a (Array.getElem?_eq_some_iff.mp q3).1⟩, vk_OFof q1 (va_eqt hco) hA, vk_OFof q1 ht hA, hT⟩
theorem lw_tab {args : Array Value} {s : State} {n : String} {f : Nat → Int32} {A : Nat → Prop} (hl : (Cond.laysStatic "FrozeFirst" n "[I").before args s = true) (hini : (Cond.initialized "FrozeFirst").before args s = true) (har : (Cond.arrayOf (.static "FrozeFirst" n "[I") .int).before args s = true) (hle : (Cond.eq (.length (.static "FrozeFirst" n "[I")) (.int (Int32.ofNat 11))).before args s = true)
    (hel : ∀ j : Nat, j < 11 → (Cond.eq (.elem (.static "FrozeFirst" n "[I") (.int (Int32.ofNat j))) (.int (f j))).before args s = true) (hA : ∀ a : Nat, a < s.heap.size → ¬ A a) : ∃ t : Nat, lwT n t f A s := by
  obtain ⟨t, ht, hT⟩ := va_Tof (f := fun j => .int (f j)) (A := A) (N := 11) (by decide) har (va_eqt hle) (fun j hj => va_eqt (hel j hj)) hA
  exact ⟨t, va_Zref hl hini ht hA, hT⟩
theorem lw_arr {args : Array Value} {s : State} {ty : FieldType} (hz : match ty with | .object _ => False | _ => True) (h : (Cond.arrayClass ty).before args s = true) : ∃ cA : ClassId, ArrOfT s cA ty ∧ va_RA s cA ty := by
  obtain ⟨cA, kA, comp, h1, h2, h3⟩ := Cond.arrayClass_spec h
  refine ⟨cA, fun n z => ⟨fun k h => (by cases h), kA, h2, comp, h3⟩, ?_⟩
  cases ty with
  | object C => exact hz.elim
  | _ => exact h1
theorem lw_arrO {args : Array Value} {s : State} {C : String} (h : (Cond.arrayOver (.object C)).before args s = true) : ∃ cA : ClassId, ArrOfT s cA (.object C) ∧ va_RA s cA (.object C) := by
  obtain ⟨comp, cA, kA, h1, -, h2, h3, h4⟩ := Cond.arrayOver_spec h
  exact ⟨cA, fun n z => ⟨fun k h => (by cases h), kA, h2, comp, h3⟩, kA, comp, h2, h3, h1, h4⟩
theorem lw_key (x : Int32) : ∃ k : Nat, k < 32 ∧ x &&& 31 = nI k := ⟨x.toBitVec.toNat % 2 ^ 5, Nat.mod_lt _ (by decide), Int32.toBitVec_inj.mp (BitVec.eq_of_toNat_eq (by
  show (x.toBitVec &&& 31#32).toNat = (BitVec.ofNat 32 (x.toBitVec.toNat % 2 ^ 5)).toNat
  rw [BitVec.toNat_and, show (31#32).toNat = 2 ^ 5 - 1 from by decide, Nat.and_two_pow_sub_one_eq_mod, BitVec.toNat_ofNat]
  omega))⟩
theorem lw_end {L i : Nat} (hL : L ≤ 2560) (hi : i ≤ L) (h : ¬ (Int32.ofNat L - 5 < nI i)) : i + 5 ≤ L := by
  have a : (Int32.ofNat L).toInt = (L : Int) := nI_toInt (by omega)
  have b : (nI i).toInt = (i : Int) := nI_toInt (by omega)
  have c : (5 : Int32).toInt = 5 := rfl
  rw [lt32, a_sub (by rw [a, c]; omega) (by rw [a, c]; omega), a, b, c] at h
  omega
set_option maxRecDepth 20000 in
theorem lw_env {s : State} {b : Nat} (hts : ∀ w ∈ lw_tbl, w.before #[Value.ref b] s = true) (hgv : (Jvm.Cond.and given_1 narrow_1).before #[Value.ref b] s = true) : ∃ k_E w_E k_L w_L t_L t_M : Nat, lwG k_E w_E k_L w_L t_L t_M (fun q : Nat => s.heap.size ≤ q) s := by
  have hs := flat_of_before _ hgv
  have hA : ∀ a : Nat, a < s.heap.size → ¬ (fun q : Nat => s.heap.size ≤ q) a := fun a h => Nat.not_le.mpr h
  have hini : (Cond.initialized "FrozeFirst").before #[Value.ref b] s = true := hts _ (by decide +kernel)
  obtain ⟨k_E, w_E, e1, e2⟩ := lw_str (args := #[Value.ref b]) (s := s) (tm := .string "FrozeFirst$Signs" 40) (N := 3) (f := fy_ends) (A := fun q : Nat => s.heap.size ≤ q) (by decide) (hs _ (by decide +kernel)) (hs _ (by decide +kernel)) (hs _ (by decide +kernel)) (hs _ (by decide +kernel)) (fun j hj => by
    rcases (show j = 0 ∨ j = 1 ∨ j = 2 by omega) with rfl | rfl | rfl <;> exact hs _ (by decide +kernel)) hA
  obtain ⟨k_L, w_L, l1, l2⟩ := lw_str (args := #[Value.ref b]) (s := s) (tm := .string "FrozeFirst$Signs" 55) (N := 4) (f := fy_lets) (A := fun q : Nat => s.heap.size ≤ q) (by decide) (hs _ (by decide +kernel)) (hs _ (by decide +kernel)) (hs _ (by decide +kernel)) (hs _ (by decide +kernel)) (fun j hj => by
    rcases (show j = 0 ∨ j = 1 ∨ j = 2 ∨ j = 3 by omega) with rfl | rfl | rfl | rfl <;> exact hs _ (by decide +kernel)) hA
  obtain ⟨t_L, t1⟩ := lw_tab (args := #[Value.ref b]) (s := s) (n := "LEAST_ALIKE") (f := fy_least) (A := fun q : Nat => s.heap.size ≤ q) (hts _ (by decide +kernel)) hini (hs _ (by decide +kernel)) (hs _ (by decide +kernel)) (fun j hj => by
    rcases (show j = 0 ∨ j = 1 ∨ j = 2 ∨ j = 3 ∨ j = 4 ∨ j = 5 ∨ j = 6 ∨ j = 7 ∨ j = 8 ∨ j = 9 ∨ j = 10 by omega) with rfl | rfl | rfl | rfl | rfl | rfl | rfl | rfl | rfl | rfl | rfl <;> exact hs _ (by decide +kernel)) hA
  obtain ⟨t_M, t2⟩ := lw_tab (args := #[Value.ref b]) (s := s) (n := "MOST_ALIKE") (f := fy_most) (A := fun q : Nat => s.heap.size ≤ q) (hts _ (by decide +kernel)) hini (hs _ (by decide +kernel)) (hs _ (by decide +kernel)) (fun j hj => by
    rcases (show j = 0 ∨ j = 1 ∨ j = 2 ∨ j = 3 ∨ j = 4 ∨ j = 5 ∨ j = 6 ∨ j = 7 ∨ j = 8 ∨ j = 9 ∨ j = 10 by omega) with rfl | rfl | rfl | rfl | rfl | rfl | rfl | rfl | rfl | rfl | rfl <;> exact hs _ (by decide +kernel)) hA
  have hc : va_Z "java/lang/String" "COMPACT_STRINGS" "Z" (.int 1) (fun q : Nat => s.heap.size ≤ q) s s.heap := va_Zof (args := #[Value.ref b]) (hts _ (by decide +kernel)) (hts _ (by decide +kernel)) (va_eqi (hs _ (by decide +kernel))) hA
  refine ⟨k_E, w_E, k_L, w_L, t_L, t_M, e2, l2, hc, t1, t2, vk_R.of (hts (.stringRef RX4 40 "><=") (by decide +kernel)) e1, vk_R.of (hts (.stringRef RX4 55 "srtn") (by decide +kernel)) l1, ?_, va_AO.of (hts (.arrayOver (.object RX0)) (by decide +kernel))⟩
  intro q hq
  have hin : ∀ q ∈ lwN, Cond.methodLinkNest q.1 q.2.1 q.2.2 "FrozeFirst" ∈ lw_tbl := by decide +kernel
  exact va_Nw.of rfl (hts _ (hin q hq))
theorem lw_K {s : State} {b : Nat} (hts : ∀ w ∈ lw_tbl, w.before #[Value.ref b] s = true) : ∃ (D : va_G) (cI cJ cZ cH : ClassId), va_K D vwCl (tyL cI cJ cZ cH) s := by
  obtain ⟨c0, i0, h0⟩ := u_known (C := RX0) (T := TX0) (N := 2) (n := 2) hts inX0 (hts (.instantiable RX0 2) (by decide +kernel))
  obtain ⟨c1, i1, h1⟩ := u_known (C := RX1) (T := TX1) (N := 3) (n := 3) hts inX1 (hts (.instantiable RX1 3) (by decide +kernel))
  obtain ⟨c2, i2, h2⟩ := u_known (C := RX2) (T := TX2) (N := 4) (n := 4) hts inX2 (hts (.instantiable RX2 4) (by decide +kernel))
  obtain ⟨c3, i3, h3⟩ := u_known (C := RX3) (T := TX3) (N := 18) (n := 18) hts inX3 (hts (.instantiable RX3 18) (by decide +kernel))
  obtain ⟨c4, i4, h4⟩ := u_known (C := RX4) (T := TX4) (N := 5) (n := 5) hts inX4 (hts (.instantiable RX4 5) (by decide +kernel))
  obtain ⟨c5, i5, h5⟩ := u_known (C := RX5) (T := TX5) (N := 3) (n := 3) hts inX5 (hts (.instantiable RX5 3) (by decide +kernel))
  obtain ⟨c6, i6, h6⟩ := u_known (C := RX6) (T := TX6) (N := 7) (n := 7) hts inX6 (hts (.instantiable RX6 7) (by decide +kernel))
  obtain ⟨c7, i7, h7⟩ := u_known (C := RX7) (T := TX7) (N := 23) (n := 23) hts inX7 (hts (.instantiable RX7 23) (by decide +kernel))
  obtain ⟨cI, aI⟩ := lw_arr (args := #[Value.ref b]) (s := s) (ty := .int) trivial (hts _ (by decide +kernel))
  obtain ⟨cJ, aJ⟩ := lw_arr (args := #[Value.ref b]) (s := s) (ty := .long) trivial (hts _ (by decide +kernel))
  obtain ⟨cZ, aZ⟩ := lw_arr (args := #[Value.ref b]) (s := s) (ty := .boolean) trivial (hts _ (by decide +kernel))
  obtain ⟨cH, aH⟩ := lw_arrO (args := #[Value.ref b]) (s := s) (C := "FrozeFirst$Held") (hts _ (by decide +kernel))
  refine ⟨(fun k => if k = 0 then c0 else if k = 1 then c1 else if k = 2 then c2 else if k = 3 then c3 else if k = 4 then c4 else if k = 5 then c5 else if k = 6 then c6 else c7, fun k => if k = 0 then i0 else if k = 1 then i1 else if k = 2 then i2 else if k = 3 then i3 else if k = 4 then i4 else if k = 5 then i5 else if k = 6 then i6 else i7), cI, cJ, cZ, cH, ?_, ?_⟩
  · intro k q hq
    match k, hq with
    | 0, hq => cases hq; exact h0
    | 1, hq => cases hq; exact h1
    | 2, hq => cases hq; exact h2
    | 3, hq => cases hq; exact h3
    | 4, hq => cases hq; exact h4
    | 5, hq => cases hq; exact h5
    | 6, hq => cases hq; exact h6
    | 7, hq => cases hq; exact h7
    | k + 8, hq => simp [vwCl] at hq
  · intro k q hq
    match k, hq with
    | 0, hq => cases hq; exact aI
    | 1, hq => cases hq; exact aJ
    | 2, hq => cases hq; exact aZ
    | 3, hq => cases hq; exact aH
    | k + 4, hq => simp [tyL] at hq
