/-! one round of the class and of the reference, side by side: cooling -/
def sC (lo : Int) (C : Nat → Int32) (E : Nat → Int64) : Prop := ∀ k, k < 4 → (C k).toInt = (E k).toInt ∧ lo ≤ (C k).toInt ∧ (C k).toInt ≤ 10000
def sPar (T : Nat → Int32) (ca b rr air st me na ef : Int32) (R : Nat → Int32) : Prop :=
  (1 ≤ (T 0).toInt ∧ (T 0).toInt ≤ 40) ∧ (∀ k, 1 ≤ k → k ≤ 6 → 0 ≤ (T k).toInt ∧ (T k).toInt ≤ 50) ∧ (1 ≤ (T 8).toInt ∧ (T 8).toInt ≤ 80) ∧ air.toInt = 100 * (T 0).toInt ∧ st = T 5 ∧ me = T 6 ∧ na.toInt = -100 * b.toInt ∧ (0 ≤ b.toInt ∧ b.toInt ≤ 9) ∧ ef.toInt = 400 * (T 8).toInt ∧ rr.toInt = (T 1).toInt + (T 4).toInt ∧ (R 0).toInt = (T 1).toInt + (T 2).toInt ∧ (R 1).toInt = (T 1).toInt ∧ (R 2).toInt = (T 1).toInt ∧ (R 3).toInt = (T 1).toInt + (T 3).toInt ∧ (∃ j : Nat, j < 8 ∧ ca = nI j)
theorem bit_c {ca : Int32} (h : ∃ j : Nat, j < 8 ∧ ca = nI j) : ((ca &&& 1 = 0) ↔ ¬ ca &&& 1 = 1) ∧ ((ca &&& 2 = 0) ↔ ¬ ca &&& 2 = 2) ∧ ((ca &&& 4 = 0) ↔ ¬ ca &&& 4 = 4) := by
  obtain ⟨j, hj, rfl⟩ := h
  rcases (show j = 0 ∨ j = 1 ∨ j = 2 ∨ j = 3 ∨ j = 4 ∨ j = 5 ∨ j = 6 ∨ j = 7 by omega) with rfl | rfl | rfl | rfl | rfl | rfl | rfl | rfl <;> decide
theorem works_0 (ca k : Int32) : X3_works ca k = 0 ↔ ca &&& k = 0 := by
  unfold X3_works
  by_cases h : ca &&& k = 0
  · simp [h]
  · simp [h]
theorem on_r {ca rime : Int32} {rime' : Int64} (h : ∃ j : Nat, j < 8 ∧ ca = nI j) (hr : rime.toInt = rime'.toInt) : X3_reckonLosses_m20_s0 ca rime = X7_cool_m36_s0 rime' ca := by
  have B := (bit_c h).2.1
  have z : (0 : Int32).toInt = 0 := rfl
  have z' : (0 : Int64).toInt = 0 := rfl
  unfold X3_reckonLosses_m20_s0 X7_cool_m36_s0
  by_cases c : ca &&& 2 = 2
  · rw [if_neg (fun h9 => absurd ((works_0 ca 2).mp h9) (fun h8 => B.mp h8 c)), if_pos c]
    by_cases d : rime ≤ 0
    · have d' : rime' ≤ 0 := by rw [le64, z', ← hr]; rw [le32, z] at d; exact d
      rw [if_pos d, if_pos d']
    · have d' : ¬ rime' ≤ 0 := by rw [le64, z', ← hr]; rw [le32, z] at d; exact d
      rw [if_neg d, if_neg d']
  · rw [if_pos ((works_0 ca 2).mpr (B.mpr c)), if_neg c]
theorem rate_e {T : Nat → Int32} {ca b rr air st me na ef : Int32} {R : Nat → Int32} (h : sPar T ca b rr air st me na ef R) {rime : Int32} {rime' : Int64} (hr : rime.toInt = rime'.toInt) {j : Nat} (hj : j < 4) :
    (X3_reckonLosses_m61_s0 rr ca rime R j).toInt = ((T 1).toInt64 + X7_cool_m74_s1 T j + X7_cool_m111_s1 rime' T ca j).toInt ∧ 0 ≤ (X3_reckonLosses_m61_s0 rr ca rime R j).toInt ∧ (X3_reckonLosses_m61_s0 rr ca rime R j).toInt ≤ 100 := by
  obtain ⟨h0, hT, h8, ha, hst, hme, hna, hb, hef, hrr, R0, R1, R2, R3, hca⟩ := h
  have t1 := hT 1 (by decide) (by decide)
  have t2 := hT 2 (by decide) (by decide)
  have t3 := hT 3 (by decide) (by decide)
  have t4 := hT 4 (by decide) (by decide)
  have z' : (0 : Int64).toInt = 0 := rfl
  have s2 : ∀ {x y : Int64}, 0 ≤ x.toInt → x.toInt ≤ 1000 → 0 ≤ y.toInt → y.toInt ≤ 1000 → (x + y).toInt = x.toInt + y.toInt := fun a b c d => b_add (by omega) (by omega)
  unfold X3_reckonLosses_m61_s0 X7_cool_m74_s1 X7_cool_m111_s1
  rw [on_r hca hr]
  rcases (show j = 0 ∨ j = 1 ∨ j = 2 ∨ j = 3 by omega) with rfl | rfl | rfl | rfl
  · rw [if_pos (show nI 0 = 0 from rfl), if_neg (show ¬ nI 0 = 3 by decide), if_neg (show ¬ nI 0 = 3 by decide), ite_self]
    have e1 : ((T 1).toInt64 + (T 2).toInt64).toInt = (T 1).toInt + (T 2).toInt := by rw [s2 (by rw [b_of]; omega) (by rw [b_of]; omega) (by rw [b_of]; omega) (by rw [b_of]; omega), b_of, b_of]
    rw [s2 (by rw [e1]; omega) (by rw [e1]; omega) (by rw [z']; omega) (by rw [z']; omega), e1, z', R0]
    omega
  · rw [if_neg (show ¬ nI 1 = 0 by decide), if_neg (show ¬ nI 1 = 3 by decide), if_neg (show ¬ nI 1 = 3 by decide), ite_self]
    have e1 : ((T 1).toInt64 + 0).toInt = (T 1).toInt := by rw [s2 (by rw [b_of]; omega) (by rw [b_of]; omega) (by rw [z']; omega) (by rw [z']; omega), b_of, z']; omega
    rw [s2 (by rw [e1]; omega) (by rw [e1]; omega) (by rw [z']; omega) (by rw [z']; omega), e1, z', R1]
    omega
  · rw [if_neg (show ¬ nI 2 = 0 by decide), if_neg (show ¬ nI 2 = 3 by decide), if_neg (show ¬ nI 2 = 3 by decide), ite_self]
    have e1 : ((T 1).toInt64 + 0).toInt = (T 1).toInt := by rw [s2 (by rw [b_of]; omega) (by rw [b_of]; omega) (by rw [z']; omega) (by rw [z']; omega), b_of, z']; omega
    rw [s2 (by rw [e1]; omega) (by rw [e1]; omega) (by rw [z']; omega) (by rw [z']; omega), e1, z', R2]
    omega
  · rw [if_neg (show ¬ nI 3 = 0 by decide), if_pos (show nI 3 = 3 from rfl), if_pos (show nI 3 = 3 from rfl)]
    have e1 : ((T 1).toInt64 + 0).toInt = (T 1).toInt := by rw [s2 (by rw [b_of]; omega) (by rw [b_of]; omega) (by rw [z']; omega) (by rw [z']; omega), b_of, z']; omega
    by_cases c : X7_cool_m36_s0 rime' ca = 0
    · rw [if_pos c, if_pos c, s2 (by rw [e1]; omega) (by rw [e1]; omega) (by rw [b_of]; omega) (by rw [b_of]; omega), e1, b_of, R3]
      omega
    · rw [if_neg c, if_neg c, s2 (by rw [e1]; omega) (by rw [e1]; omega) (by rw [b_of]; omega) (by rw [b_of]; omega), e1, b_of, hrr]
      omega
theorem rl32 (rr air ca left rime : Int32) (C Lo R : Nat → Int32) : ∀ n j, j < n → X3_reckonLosses_L34 rr air ca left rime C Lo R n j = X3_reckonLosses_L34 rr air ca left rime C Lo R (j + 1) j := by
  intro n
  induction n with
  | zero => intro j h; omega
  | succ n ih =>
    intro j h
    by_cases e : j = n
    · rw [e]
    · rw [← ih j (by omega)]
      show upd _ n _ j = _
      rw [pk_un e]
theorem rl64 (left rime : Int64) (T : Nat → Int32) (E Lo : Nat → Int64) (ca : Int32) : ∀ n j, j < n → X7_cool_L41 left rime T E Lo ca n j = X7_cool_L41 left rime T E Lo ca (j + 1) j := by
  intro n
  induction n with
  | zero => intro j h; omega
  | succ n ih =>
    intro j h
    by_cases e : j = n
    · rw [e]
    · rw [← ih j (by omega)]
      show vp_updL _ n _ j = _
      rw [pk_uLn e]
theorem loss_e {T : Nat → Int32} {ca b rr air st me na ef : Int32} {R : Nat → Int32} (h : sPar T ca b rr air st me na ef R) {left rime : Int32} {left' rime' : Int64} {C Lo : Nat → Int32} {E Lo' : Nat → Int64} (hC : sC (-(100 * (T 0).toInt)) C E) (hl : left.toInt = left'.toInt) (hl0 : 10000 ≤ left.toInt) (hr : rime.toInt = rime'.toInt) {j : Nat} (hj : j < 4) :
    (X3_reckonLosses_o_losses rr air ca left rime C Lo R j).toInt = (X7_cool_o_loss left' rime' T E Lo' ca j).toInt ∧ 0 ≤ (X3_reckonLosses_o_losses rr air ca left rime C Lo R j).toInt ∧ (X3_reckonLosses_o_losses rr air ca left rime C Lo R j).toInt ≤ (C j).toInt + 100 * (T 0).toInt := by
  obtain ⟨c1, c2, c3⟩ := hC j hj
  obtain ⟨r1, r2, r3⟩ := rate_e h hr hj
  obtain ⟨h0, hT, h8, ha, hst, hme, hna, hb, hef, hrr, R0, R1, R2, R3, hca⟩ := h
  unfold X3_reckonLosses_o_losses X7_cool_o_loss
  rw [rl32 _ _ _ _ _ _ _ _ 4 j hj, rl64 _ _ _ _ _ _ 4 j hj]
  have e1 : X3_reckonLosses_L34 rr air ca left rime C Lo R (j + 1) j = (C j + air) * X3_reckonLosses_m61_s0 rr ca rime R j / 1000 * 100000 / (if (10000 : Int32) < left then left else 10000) := pk_us
  have e2 : X7_cool_L41 left' rime' T E Lo' ca (j + 1) j = (E j + 100 * (T 0).toInt64) * ((T 1).toInt64 + X7_cool_m74_s1 T j + X7_cool_m111_s1 rime' T ca j) / 1000 * 100000 / left' := pk_uLs
  have z : (10000 : Int32).toInt = 10000 := rfl
  have z' : (100 : Int64).toInt = 100 := rfl
  have em : (if (10000 : Int32) < left then left else 10000) = left := by
    by_cases c : (10000 : Int32) < left
    · rw [if_pos c]
    · rw [if_neg c, eq32, z]
      rw [lt32, z] at c
      omega
  have ea : ((100 : Int64) * (T 0).toInt64).toInt = 100 * (T 0).toInt := by rw [b_mul (by rw [b_of, z']; omega) (by rw [b_of, z']; omega), b_of, z']
  rw [e1, e2, em, loss32 (by rw [ha]; omega) (by rw [ha]; omega) r2 r3 hl0, loss64 (by rw [ea, ← c1]; omega) (by rw [ea, ← c1]; omega) (by rw [← r1]; exact r2) (by rw [← r1]; exact r3) (by rw [← hl]; exact hl0), ea, ha, ← c1, ← r1, ← hl]
  have B := zl_b (w := (C j).toInt + 100 * (T 0).toInt) (r := (X3_reckonLosses_m61_s0 rr ca rime R j).toInt) (l := left.toInt) (by omega) (by omega) r2 r3 hl0
  exact ⟨rfl, B.2.2.2.2.1, B.2.2.2.2.2⟩
theorem sub32 (rr air ca left rime : Int32) (C Lo R : Nat → Int32) : ∀ n j, (j < n → X3_oneRound_L102 rr air ca left rime C Lo R n j = C j - X3_reckonLosses_o_losses rr air ca left rime C Lo R j) ∧ (n ≤ j → X3_oneRound_L102 rr air ca left rime C Lo R n j = C j) := by
  intro n
  induction n with
  | zero => intro j; exact ⟨fun h => by omega, fun _ => rfl⟩
  | succ n ih =>
    intro j
    by_cases e : j = n
    · subst e
      refine ⟨fun _ => ?_, fun h => by omega⟩
      show upd _ j _ j = _
      rw [pk_us, (ih j).2 (Nat.le_refl j)]
    · refine ⟨fun h => ?_, fun h => ?_⟩
      · show upd _ n _ j = _
        rw [pk_un e, (ih j).1 (by omega)]
      · show upd _ n _ j = _
        rw [pk_un e, (ih j).2 (by omega)]
theorem sub64 (left rime : Int64) (T : Nat → Int32) (E Lo : Nat → Int64) (ca : Int32) : ∀ n j, (j < n → X7_cool_L282 left rime T E Lo ca n j = E j - X7_cool_o_loss left rime T E Lo ca j) ∧ (n ≤ j → X7_cool_L282 left rime T E Lo ca n j = E j) := by
  intro n
  induction n with
  | zero => intro j; exact ⟨fun h => by omega, fun _ => rfl⟩
  | succ n ih =>
    intro j
    by_cases e : j = n
    · subst e
      refine ⟨fun _ => ?_, fun h => by omega⟩
      show vp_updL _ j _ j = _
      rw [pk_uLs, (ih j).2 (Nat.le_refl j)]
      rfl
    · refine ⟨fun h => ?_, fun h => ?_⟩
      · show vp_updL _ n _ j = _
        rw [pk_uLn e, (ih j).1 (by omega)]
      · show vp_updL _ n _ j = _
        rw [pk_uLn e, (ih j).2 (by omega)]
/-- behind the losses the cells still stand alike -/
theorem sub_e {T : Nat → Int32} {ca b rr air st me na ef : Int32} {R : Nat → Int32} (h : sPar T ca b rr air st me na ef R) {left rime : Int32} {left' rime' : Int64} {C Lo : Nat → Int32} {E Lo' : Nat → Int64} (hC : sC (-(100 * (T 0).toInt)) C E) (hl : left.toInt = left'.toInt) (hl0 : 10000 ≤ left.toInt) (hr : rime.toInt = rime'.toInt) :
    sC (-(100 * (T 0).toInt)) (X3_oneRound_L102 rr air ca left rime C Lo R 4) (X7_cool_L282 left' rime' T E Lo' ca 4) := by
  intro k hk
  obtain ⟨c1, c2, c3⟩ := hC k hk
  obtain ⟨d1, d2, d3⟩ := loss_e (Lo := Lo) (Lo' := Lo') h hC hl hl0 hr hk
  have h0 := h.1
  rw [(sub32 rr air ca left rime C Lo R 4 k).1 hk, (sub64 left' rime' T E Lo' ca 4 k).1 hk]
  rw [a_sub (by omega) (by omega), b_sub (by omega) (by omega)]
  omega
theorem left_e {T : Nat → Int32} {ca b rr air st me na ef : Int32} {R : Nat → Int32} (h : sPar T ca b rr air st me na ef R) {left : Int32} {left' : Int64} {C : Nat → Int32} {E : Nat → Int64} (hC : sC (-(100 * (T 0).toInt)) C E) (hl : left.toInt = left'.toInt) (hl0 : 10000 ≤ left.toInt) (hl1 : left.toInt ≤ 100000) :
    (X3_oneRound_o_left st ca left C).toInt = (X7_cool_o_left left' T E ca).toInt ∧ 10000 ≤ (X3_oneRound_o_left st ca left C).toInt ∧ (X3_oneRound_o_left st ca left C).toInt ≤ 100000 := by
  obtain ⟨c1, c2, c3⟩ := hC 0 (by decide)
  obtain ⟨h0, hT, h8, ha, hst, hme, hna, hb, hef, hrr, R0, R1, R2, R3, hca⟩ := h
  have t5 := hT 5 (by decide) (by decide)
  subst hst
  have B := (bit_c hca).1
  have z : (0 : Int32).toInt = 0 := rfl
  have z' : (0 : Int64).toInt = 0 := rfl
  have y : (1000 : Int32).toInt = 1000 := rfl
  have y' : (1000 : Int64).toInt = 1000 := rfl
  have x : (10000 : Int32).toInt = 10000 := rfl
  have x' : (10000 : Int64).toInt = 10000 := rfl
  unfold X3_oneRound_o_left X3_oneRound_m65_left X7_cool_o_left X7_cool_m222_left X7_cool_m219_s1
  by_cases c : ca &&& 1 = 1
  · rw [if_neg (fun h9 => absurd ((works_0 ca 1).mp h9) (fun h8 => B.mp h8 c)), if_pos c]
    by_cases d : C 0 ≤ 0
    · have d' : E 0 ≤ 0 := by rw [le64, z', ← c1]; rw [le32, z] at d; exact d
      rw [if_pos d, if_pos d']
      exact ⟨hl, hl0, hl1⟩
    · have d' : ¬ E 0 ≤ 0 := by rw [le64, z', ← c1]; rw [le32, z] at d; exact d
      rw [if_neg d, if_neg d']
      rw [le32, z] at d
      have M := z_mul (w := (C 0).toInt) (r := (T 5).toInt) (W := 10000) (R := 50) (by omega) c3 t5.1 t5.2
      have q := Int.tdiv_eq_ediv_of_nonneg (b := 1000) M.1
      have e1 : (C 0 * T 5).toInt = (C 0).toInt * (T 5).toInt := a_mul (by omega) (by omega)
      have e2 : (C 0 * T 5 / 1000).toInt = ((C 0).toInt * (T 5).toInt) / 1000 := by rw [a_div (by rw [e1, y, q]; omega) (by rw [e1, y, q]; omega), e1, y, q]
      have e3 : (left - C 0 * T 5 / 1000).toInt = left.toInt - ((C 0).toInt * (T 5).toInt) / 1000 := by rw [a_sub (by rw [e2]; omega) (by rw [e2]; omega), e2]
      have f1 : (E 0 * (T 5).toInt64).toInt = (C 0).toInt * (T 5).toInt := by rw [b_mul (by rw [b_of, ← c1]; omega) (by rw [b_of, ← c1]; omega), b_of, ← c1]
      have f2 : (E 0 * (T 5).toInt64 / 1000).toInt = ((C 0).toInt * (T 5).toInt) / 1000 := by rw [b_div (by rw [f1, y', q]; omega) (by rw [f1, y', q]; omega), f1, y', q]
      have f3 : (left' - E 0 * (T 5).toInt64 / 1000).toInt = left.toInt - ((C 0).toInt * (T 5).toInt) / 1000 := by rw [b_sub (by rw [f2, ← hl]; omega) (by rw [f2, ← hl]; omega), f2, ← hl]
      by_cases g : (10000 : Int32) < left - C 0 * T 5 / 1000
      · rw [if_pos g]
        rw [lt32, e3, x] at g
        have g' : (10000 : Int64) ≤ left' - E 0 * (T 5).toInt64 / 1000 := by rw [le64, f3, x']; omega
        rw [if_pos g', e3, f3]
        omega
      · rw [if_neg g]
        rw [lt32, e3, x] at g
        by_cases g2 : (10000 : Int64) ≤ left' - E 0 * (T 5).toInt64 / 1000
        · rw [if_pos g2]
          rw [le64, f3, x'] at g2
          rw [f3, x]
          omega
        · rw [if_neg g2, x, x']
          omega
  · rw [if_pos ((works_0 ca 1).mpr (B.mpr c)), if_neg c]
    exact ⟨hl, hl0, hl1⟩
theorem rime_e {T : Nat → Int32} {ca b rr air st me na ef : Int32} {R : Nat → Int32} (h : sPar T ca b rr air st me na ef R) {rime : Int32} {rime' : Int64} {C : Nat → Int32} {E : Nat → Int64} (hC : sC (-(100 * (T 0).toInt)) C E) (hr : rime.toInt = rime'.toInt) (hr0 : 0 ≤ rime.toInt) (hr1 : rime.toInt ≤ 99) :
    (X3_oneRound_o_rime me ca rime C).toInt = (X7_cool_o_rime rime' T E ca).toInt ∧ 0 ≤ (X3_oneRound_o_rime me ca rime C).toInt ∧ (X3_oneRound_o_rime me ca rime C).toInt ≤ 99 := by
  obtain ⟨c1, c2, c3⟩ := hC 3 (by decide)
  obtain ⟨h0, hT, h8, ha, hst, hme, hna, hb, hef, hrr, R0, R1, R2, R3, hca⟩ := h
  have t6 := hT 6 (by decide) (by decide)
  subst hme
  have B := (bit_c hca).2.1
  have z : (0 : Int32).toInt = 0 := rfl
  have z' : (0 : Int64).toInt = 0 := rfl
  have x : (10000 : Int32).toInt = 10000 := rfl
  have x' : (10000 : Int64).toInt = 10000 := rfl
  have on := on_r hca hr
  unfold X3_reckonLosses_m20_s0 at on
  unfold X3_oneRound_o_rime X3_oneRound_m100_rime X7_cool_o_rime X7_cool_m279_rime X7_cool_m276_s1
  by_cases c : X3_works ca 2 = 0
  · rw [if_pos c] at on
    rw [if_pos c, if_pos on.symm]
    exact ⟨hr, hr0, hr1⟩
  · rw [if_neg c] at on
    rw [if_neg c]
    by_cases d : C 3 ≤ 0
    · rw [if_pos d]
      have d' : E 3 ≤ 0 := by rw [le64, z', ← c1]; rw [le32, z] at d; exact d
      rw [if_pos d', ite_self]
      exact ⟨hr, hr0, hr1⟩
    · rw [if_neg d]
      have d' : ¬ E 3 ≤ 0 := by rw [le64, z', ← c1]; rw [le32, z] at d; exact d
      rw [if_neg d']
      rw [le32, z] at d
      have M := z_mul (w := (C 3).toInt) (r := (T 6).toInt) (W := 10000) (R := 50) (by omega) c3 t6.1 t6.2
      have q := Int.tdiv_eq_ediv_of_nonneg (b := 10000) M.1
      have e1 : (C 3 * T 6).toInt = (C 3).toInt * (T 6).toInt := a_mul (by omega) (by omega)
      have e2 : (C 3 * T 6 / 10000).toInt = ((C 3).toInt * (T 6).toInt) / 10000 := by rw [a_div (by rw [e1, x, q]; omega) (by rw [e1, x, q]; omega), e1, x, q]
      have e3 : (rime - C 3 * T 6 / 10000).toInt = rime.toInt - ((C 3).toInt * (T 6).toInt) / 10000 := by rw [a_sub (by rw [e2]; omega) (by rw [e2]; omega), e2]
      have f1 : (E 3 * (T 6).toInt64).toInt = (C 3).toInt * (T 6).toInt := by rw [b_mul (by rw [b_of, ← c1]; omega) (by rw [b_of, ← c1]; omega), b_of, ← c1]
      have f2 : (E 3 * (T 6).toInt64 / 10000).toInt = ((C 3).toInt * (T 6).toInt) / 10000 := by rw [b_div (by rw [f1, x', q]; omega) (by rw [f1, x', q]; omega), f1, x', q]
      have f3 : (rime' - E 3 * (T 6).toInt64 / 10000).toInt = rime.toInt - ((C 3).toInt * (T 6).toInt) / 10000 := by rw [b_sub (by rw [f2, ← hr]; omega) (by rw [f2, ← hr]; omega), f2, ← hr]
      by_cases k : rime ≤ 0
      · rw [if_pos k] at on
        rw [if_pos on.symm]
        rw [le32, z] at k
        have g' : ¬ (0 : Int32) < rime - C 3 * T 6 / 10000 := by rw [lt32, e3, z]; omega
        rw [if_neg g', z]
        omega
      · rw [if_neg k] at on
        have on' : ¬ X7_cool_m36_s0 rime' ca = 0 := by rw [← on]; decide
        rw [if_neg on']
        by_cases g : (0 : Int32) < rime - C 3 * T 6 / 10000
        · rw [if_pos g]
          rw [lt32, e3, z] at g
          have g' : (0 : Int64) ≤ rime' - E 3 * (T 6).toInt64 / 10000 := by rw [le64, f3, z']; omega
          rw [if_pos g', e3, f3]
          omega
        · rw [if_neg g]
          rw [lt32, e3, z] at g
          by_cases g2 : (0 : Int64) ≤ rime' - E 3 * (T 6).toInt64 / 10000
          · rw [if_pos g2]
            rw [le64, f3, z'] at g2
            rw [f3, z]
            omega
          · rw [if_neg g2, z, z']
            omega
