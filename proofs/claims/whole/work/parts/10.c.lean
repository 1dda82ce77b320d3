/-! turning about, freezing, reading: class and reference side by side -/
def t32 (D : Nat → Int32) (j : Nat) : Nat → Int32 := if X3_fromStill (D (j + 1)) ≤ X3_fromStill (D j) then D else upd (upd D j (J9_floorDiv_7cf53 (D j + D (j + 1)) 2)) (j + 1) (D j + D (j + 1) - (upd D j (J9_floorDiv_7cf53 (D j + D (j + 1)) 2)) j)
def t64 (D : Nat → Int64) (j : Nat) : Nat → Int64 := if X7_far (D (j + 1)) ≤ X7_far (D j) then D else vp_updL (vp_updL D j (X7_half (D j + D (j + 1)))) (j + 1) (D j + D (j + 1) - (vp_updL D j (X7_half (D j + D (j + 1)))) j)
theorem turn32 (C : Nat → Int32) : X3_turnAbout_o_cells C = t32 (t32 (t32 C 0) 1) 2 := rfl
theorem l314_s {ca : Int32} (h : ca &&& 4 = 4) (n j : Nat) (hj : j < 3) (E : Nat → Int64) : X7_cool_L314 ca (n + 1) j E = X7_cool_L314 ca n (j + 1) (t64 E j) := by
  have c : ¬ (3 : Int32) ≤ nI j := fun h9 => by
    have := (fx_leN (x := 3) (y := nI j) (a := 3) (b := j) rfl rfl (by decide) (by omega)).mp h9
    omega
  rw [X7_cool_L314, if_neg c, if_pos h]
  unfold t64
  by_cases d : X7_far (E (j + 1)) ≤ X7_far (E j)
  · rw [if_pos d, if_pos d]
  · rw [if_neg d, if_neg d]
theorem turn64 {ca : Int32} (h : ca &&& 4 = 4) (E : Nat → Int64) : (X7_cool_L314 ca 4 0 E).2 = t64 (t64 (t64 E 0) 1) 2 := by
  rw [l314_s h 3 0 (by decide), l314_s h 2 1 (by decide), l314_s h 1 2 (by decide), X7_cool_L314, if_pos (by decide)]
theorem turn64n {ca : Int32} (h : ¬ ca &&& 4 = 4) (E : Nat → Int64) : (X7_cool_L314 ca 4 0 E).2 = E := by
  rw [X7_cool_L314, if_neg (by decide), if_neg h]
theorem t_e {lo : Int} (hlo : -4000 ≤ lo) {C : Nat → Int32} {E : Nat → Int64} (h : sC lo C E) {j : Nat} (hj : j < 3) : sC lo (t32 C j) (t64 E j) := by
  obtain ⟨a1, a2, a3⟩ := h j (by omega)
  obtain ⟨b1, b2, b3⟩ := h (j + 1) (by omega)
  have f1 := far32 (x := C j) (by omega) (by omega)
  have f2 := far32 (x := C (j + 1)) (by omega) (by omega)
  have g1 := far64 (x := E j) (by omega) (by omega)
  have g2 := far64 (x := E (j + 1)) (by omega) (by omega)
  have hc : (X3_fromStill (C (j + 1)) ≤ X3_fromStill (C j)) ↔ (X7_far (E (j + 1)) ≤ X7_far (E j)) := by
    rw [le32, le64, f1, f2, g1, g2, a1, b1]
  unfold t32 t64
  by_cases d : X3_fromStill (C (j + 1)) ≤ X3_fromStill (C j)
  · rw [if_pos d, if_pos (hc.mp d)]
    exact h
  · rw [if_neg d, if_neg (fun h9 => d (hc.mpr h9))]
    have e1 : (C j + C (j + 1)).toInt = (C j).toInt + (C (j + 1)).toInt := a_add (by omega) (by omega)
    have e2 : (E j + E (j + 1)).toInt = (C j).toInt + (C (j + 1)).toInt := by rw [b_add (by omega) (by omega), a1, b1]
    have h1 := fl32 (s := C j + C (j + 1)) (by rw [e1]; omega) (by rw [e1]; omega)
    have h2 := ha64 (s := E j + E (j + 1)) (by rw [e2]; omega) (by rw [e2]; omega)
    rw [e1] at h1
    rw [e2] at h2
    have u1 : (upd C j (J9_floorDiv_7cf53 (C j + C (j + 1)) 2)) j = J9_floorDiv_7cf53 (C j + C (j + 1)) 2 := pk_us
    have u2 : (vp_updL E j (X7_half (E j + E (j + 1)))) j = X7_half (E j + E (j + 1)) := pk_uLs
    rw [u1, u2]
    have k1 : (C j + C (j + 1) - J9_floorDiv_7cf53 (C j + C (j + 1)) 2).toInt = (C j).toInt + (C (j + 1)).toInt - ((C j).toInt + (C (j + 1)).toInt) / 2 := by rw [a_sub (by rw [e1, h1]; omega) (by rw [e1, h1]; omega), e1, h1]
    have k2 : (E j + E (j + 1) - X7_half (E j + E (j + 1))).toInt = (C j).toInt + (C (j + 1)).toInt - ((C j).toInt + (C (j + 1)).toInt) / 2 := by rw [b_sub (by rw [e2, h2]; omega) (by rw [e2, h2]; omega), e2, h2]
    intro k hk
    by_cases p : k = j + 1
    · subst p
      rw [pk_us, pk_uLs, k1, k2]
      omega
    · rw [pk_un p, pk_uLn p]
      by_cases q : k = j
      · subst q
        rw [pk_us, pk_uLs, h1, h2]
        omega
      · rw [pk_un q, pk_uLn q]
        exact h k hk
theorem cell_e {T : Nat → Int32} {ca b rr air st me na ef : Int32} {R : Nat → Int32} (h : sPar T ca b rr air st me na ef R) {left rime : Int32} {left' rime' : Int64} {C Lo : Nat → Int32} {E Lo' : Nat → Int64} (hC : sC (-(100 * (T 0).toInt)) C E) (hl : left.toInt = left'.toInt) (hl0 : 10000 ≤ left.toInt) (hr : rime.toInt = rime'.toInt) :
    sC (-(100 * (T 0).toInt)) (X3_oneRound_m140_cells rr air ca left rime C Lo R) (X7_cool_o_cell left' rime' T E Lo' ca) := by
  have S := sub_e (Lo := Lo) (Lo' := Lo') h hC hl hl0 hr
  have B := (bit_c h.2.2.2.2.2.2.2.2.2.2.2.2.2.2).2.2
  have h0 := h.1
  unfold X3_oneRound_m140_cells X7_cool_o_cell
  by_cases c : ca &&& 4 = 4
  · rw [if_neg (fun h9 => absurd ((works_0 ca 4).mp h9) (fun h8 => B.mp h8 c)), turn32, turn64 c]
    exact t_e (by omega) (t_e (by omega) (t_e (by omega) S (by decide)) (by decide)) (by decide)
  · rw [if_pos ((works_0 ca 4).mpr (B.mpr c)), turn64n c]
    exact S
theorem le4 {j : Nat} (hj : j ≤ 4) : ((4 : Int32) ≤ nI j) ↔ 4 ≤ j := fx_leN (x := 4) (y := nI j) (a := 4) (b := j) rfl rfl (by decide) (by omega)
theorem ns32 (na : Int32) (C : Nat → Int32) : ∀ n j, 4 - j < n → j ≤ 4 → (X3_needleStands_L2 na C n j = 0 ↔ ∀ k, j ≤ k → k < 4 → na < C k) := by
  intro n
  induction n with
  | zero => intro j h; omega
  | succ n ih =>
    intro j h hj
    rw [X3_needleStands_L2]
    by_cases c : (4 : Int32) ≤ nI j
    · rw [if_pos c]
      have := (le4 hj).mp c
      exact ⟨fun _ k h1 h2 => by omega, fun _ => rfl⟩
    · rw [if_neg c]
      have c' : ¬ 4 ≤ j := fun h9 => c ((le4 hj).mpr h9)
      by_cases d : na < C j
      · rw [if_pos d, ih (j + 1) (by omega) (by omega)]
        refine ⟨fun g k h1 h2 => ?_, fun g k h1 h2 => g k (by omega) h2⟩
        by_cases e : k = j
        · rw [e]; exact d
        · exact g k (by omega) h2
      · rw [if_neg d]
        exact ⟨fun g => absurd g (by decide), fun g => absurd (g j (Nat.le_refl j) (by omega)) d⟩
theorem ns64 (E : Nat → Int64) (b : Int32) : ∀ n, (X7_freeze_L4 E b n = 0 ↔ ∀ k, k < n → ((-100 : Int64) * b.toInt64) < E k) := by
  intro n
  induction n with
  | zero => exact ⟨fun _ k h => by omega, fun _ => rfl⟩
  | succ n ih =>
    rw [X7_freeze_L4, X7_freeze_m34_s0]
    by_cases c : X7_freeze_L4 E b n = 0
    · rw [if_pos c]
      have g := ih.mp c
      by_cases d : ((-100 : Int64) * b.toInt64) < E n
      · rw [if_pos d]
        refine ⟨fun _ k h => ?_, fun _ => rfl⟩
        by_cases e : k = n
        · rw [e]; exact d
        · exact g k (by omega)
      · rw [if_neg d]
        exact ⟨fun h => absurd h (by decide), fun h => absurd (h n (by omega)) d⟩
    · rw [if_neg c]
      exact ⟨fun h => absurd h (by decide), fun h => absurd (ih.mpr (fun k hk => h k (by omega))) c⟩
theorem needle_e {lo : Int} {C : Nat → Int32} {E : Nat → Int64} (h : sC lo C E) {na b : Int32} (hna : na.toInt = -100 * b.toInt) (hb : 0 ≤ b.toInt ∧ b.toInt ≤ 9) : X3_needleStands na C = 0 ↔ X7_freeze_L4 E b 4 = 0 := by
  unfold X3_needleStands
  have z : (-100 : Int64).toInt = -100 := rfl
  have e : ((-100 : Int64) * b.toInt64).toInt = -100 * b.toInt := by rw [b_mul (by rw [z, b_of]; omega) (by rw [z, b_of]; omega), z, b_of]
  rw [ns32 na C 5 0 (by decide) (by decide), ns64 E b 4]
  refine ⟨fun g k hk => ?_, fun g k _ hk => ?_⟩
  · have := g k (Nat.zero_le k) hk
    rw [lt32] at this
    rw [lt64, e, ← (h k hk).1]
    omega
  · have := g k hk
    rw [lt64, e, ← (h k hk).1] at this
    rw [lt32]
    omega
def ng (x : Int) : Int := if x < 0 then -x else 0
def zr (x : Int) : Int := if x < 0 then 0 else x
def sg (C : Nat → Int) : Nat → Int
  | 0 => 0
  | n + 1 => sg C n + ng (C n)
theorem sg_b {C : Nat → Int} {lo : Int} (hlo : -4000 ≤ lo) (h : ∀ k, k < 4 → lo ≤ C k) : ∀ n, n ≤ 4 → 0 ≤ sg C n ∧ sg C n ≤ 4000 * n := by
  intro n
  induction n with
  | zero => intro _; exact ⟨Int.le_refl 0, Int.le_refl 0⟩
  | succ n ih =>
    intro hn
    have a := ih (by omega)
    have b := h n (by omega)
    rw [sg, ng]
    split
    · omega
    · omega
theorem tb32 {lo : Int} (hlo : -4000 ≤ lo) (C : Nat → Int32) (h : ∀ k, k < 4 → lo ≤ (C k).toInt ∧ (C k).toInt ≤ 10000) : ∀ n, n ≤ 4 → (X3_takeBelowNought_L4 C n).1.toInt = sg (fun k => (C k).toInt) n ∧ (∀ k, k < n → ((X3_takeBelowNought_L4 C n).2 k).toInt = zr (C k).toInt) ∧ ∀ k, n ≤ k → (X3_takeBelowNought_L4 C n).2 k = C k := by
  intro n
  induction n with
  | zero => intro _; exact ⟨rfl, fun k h => by omega, fun k _ => rfl⟩
  | succ n ih =>
    intro hn
    obtain ⟨a1, a2, a3⟩ := ih (by omega)
    have z : (0 : Int32).toInt = 0 := rfl
    have bd := h n (by omega)
    have sb := sg_b (C := fun k => (C k).toInt) hlo (fun k hk => (h k hk).1) n (by omega)
    have e0 := a3 n (Nat.le_refl n)
    rw [X3_takeBelowNought_L4, e0, sg]
    by_cases c : 0 ≤ C n
    · rw [if_pos c]
      rw [le32, z] at c
      refine ⟨?_, fun k hk => ?_, fun k hk => a3 k (by omega)⟩
      · show (X3_takeBelowNought_L4 C n).1.toInt = _
        rw [a1, ng, if_neg (by omega)]
        omega
      · show ((X3_takeBelowNought_L4 C n).2 k).toInt = _
        by_cases e : k = n
        · subst e
          rw [e0, zr, if_neg (by omega)]
        · exact a2 k (by omega)
    · rw [if_neg c]
      rw [le32, z] at c
      refine ⟨?_, fun k hk => ?_, fun k hk => ?_⟩
      · show ((X3_takeBelowNought_L4 C n).1 - C n).toInt = _
        rw [a_sub (by rw [a1]; omega) (by rw [a1]; omega), a1, ng, if_pos (by omega)]
        omega
      · show (upd (X3_takeBelowNought_L4 C n).2 n 0 k).toInt = _
        by_cases e : k = n
        · subst e
          rw [pk_us, zr, if_pos (by omega), z]
        · rw [pk_un e]
          exact a2 k (by omega)
      · show upd (X3_takeBelowNought_L4 C n).2 n 0 k = _
        rw [pk_un (by omega)]
        exact a3 k (by omega)
theorem tb64 {bg rd b : Int32} {E0 : Nat → Int64} (hnb : ¬ (601 : Int32) ≤ X7_freeze_m73_began bg rd E0 b) {C : Nat → Int} {lo : Int} (hlo : -4000 ≤ lo) (hC : ∀ k, k < 4 → lo ≤ C k ∧ C k ≤ 10000) :
    ∀ (n j : Nat) (f : Int64) (E : Nat → Int64), 4 - j < n → j ≤ 4 → (∀ k, k < 4 → j ≤ k → (E k).toInt = C k) → 0 ≤ f.toInt → f.toInt ≤ 100000000 + 4000 * j →
      (X7_freeze_L76 bg rd E0 b n j f E).2.1.toInt = f.toInt + (if X7_freeze_m56_s0 bg = 0 then 0 else sg C 4 - sg C j) ∧ (∀ k, k < 4 → j ≤ k → ((X7_freeze_L76 bg rd E0 b n j f E).2.2 k).toInt = zr (C k)) ∧ ∀ k, k < j → (X7_freeze_L76 bg rd E0 b n j f E).2.2 k = E k := by
  intro n
  induction n with
  | zero => intro j f E h; omega
  | succ n ih =>
    intro j f E h hj hE f0 f1
    rw [X7_freeze_L76]
    have z' : (0 : Int64).toInt = 0 := rfl
    by_cases c : (4 : Int32) ≤ nI j
    · rw [if_pos c]
      have c' := (le4 hj).mp c
      have e4 : j = 4 := by omega
      subst e4
      refine ⟨?_, fun k h1 h2 => by omega, fun k _ => rfl⟩
      show f.toInt = _
      split <;> omega
    · rw [if_neg c, if_neg hnb]
      have c' : ¬ 4 ≤ j := fun h9 => c ((le4 hj).mpr h9)
      have ej := hE j (by omega) (Nat.le_refl j)
      have bj := hC j (by omega)
      have s1 : sg C (j + 1) = sg C j + ng (C j) := rfl
      by_cases d : 0 ≤ E j
      · rw [if_pos d]
        rw [le64, z', ej] at d
        have n0 : ng (C j) = 0 := by rw [ng, if_neg (by omega)]
        obtain ⟨g1, g2, g3⟩ := ih (j + 1) f E (by omega) (by omega) (fun k h1 h2 => hE k h1 (by omega)) f0 (by omega)
        refine ⟨?_, fun k h1 h2 => ?_, fun k h1 => g3 k (by omega)⟩
        · rw [g1, s1, n0]
          split <;> omega
        · by_cases e : k = j
          · subst e
            rw [g3 k (by omega), ej, zr, if_neg (by omega)]
          · exact g2 k h1 (by omega)
      · rw [if_neg d]
        rw [le64, z', ej] at d
        have n0 : ng (C j) = -(C j) := by rw [ng, if_pos (by omega)]
        have m0 : (X7_freeze_m124_s2 bg j E).toInt = if X7_freeze_m56_s0 bg = 0 then 0 else C j := by
          rw [X7_freeze_m124_s2]
          split
          · exact z'
          · exact ej
        have fe : (f - X7_freeze_m124_s2 bg j E).toInt = f.toInt - (if X7_freeze_m56_s0 bg = 0 then 0 else C j) := by
          rw [b_sub (by rw [m0]; split <;> omega) (by rw [m0]; split <;> omega), m0]
        obtain ⟨g1, g2, g3⟩ := ih (j + 1) (f - X7_freeze_m124_s2 bg j E) (vp_updL E j 0) (by omega) (by omega) (fun k h1 h2 => by rw [pk_uLn (by omega)]; exact hE k h1 (by omega)) (by rw [fe]; split <;> omega) (by rw [fe]; split <;> omega)
        refine ⟨?_, fun k h1 h2 => ?_, fun k h1 => ?_⟩
        · rw [g1, fe, s1, n0]
          split <;> omega
        · by_cases e : k = j
          · subst e
            rw [g3 k (by omega), pk_uLs, z', zr, if_pos (by omega)]
          · exact g2 k h1 (by omega)
        · rw [g3 k (by omega), pk_uLn (by omega)]
