/-! a whole round side by side -/
theorem rd_l (fr : Int64) (bg rd : Int32) (E : Nat → Int64) (read : Nat → Int32) (b : Int32) : ∀ n k, (k < n → X7_freeze_L177 fr bg rd E read b n k = (if read k = 601 then (if (0 : Int64) < (X7_freeze_L76 bg rd E b 5 0 fr E).2.2 k then read k else rd) else read k)) ∧ (n ≤ k → X7_freeze_L177 fr bg rd E read b n k = read k) := by
  intro n
  induction n with
  | zero => intro k; exact ⟨fun h => by omega, fun _ => rfl⟩
  | succ n ih =>
    intro k
    by_cases e : k = n
    · subst e
      refine ⟨fun _ => ?_, fun h => by omega⟩
      show upd _ k _ k = _
      rw [pk_us, X7_freeze_m228_s2, (ih k).2 (Nat.le_refl k)]
    · refine ⟨fun h => ?_, fun h => ?_⟩
      · show upd _ n _ k = _
        rw [pk_un e, (ih k).1 (by omega)]
      · show upd _ n _ k = _
        rw [pk_un e, (ih k).2 (by omega)]
theorem m56_0 {bg : Int32} (h : bg = 601 ∨ bg.toInt ≤ 600) : X7_freeze_m56_s0 bg = 0 ↔ bg = 601 := by
  have z : (601 : Int32).toInt = 601 := rfl
  unfold X7_freeze_m56_s0
  by_cases c : (601 : Int32) ≤ bg
  · rw [if_pos c]
    rw [le32, z] at c
    refine ⟨fun _ => ?_, fun _ => rfl⟩
    rcases h with h | h
    · exact h
    · omega
  · rw [if_neg c]
    refine ⟨fun h9 => absurd h9 (by decide), fun h9 => ?_⟩
    subst h9
    exact absurd (Int32.le_refl 601) c
/-- freezing: what is added, when it began, when the last drop was, the cells -/
theorem freeze_e {lo : Int} (hlo : -4000 ≤ lo) (hlo0 : lo ≤ 0) {C : Nat → Int32} {E : Nat → Int64} (h : sC lo C E) {na ef b : Int32} {T : Nat → Int32} (hna : na.toInt = -100 * b.toInt) (hb : 0 ≤ b.toInt ∧ b.toInt ≤ 9) (hef : ef.toInt = 400 * (T 8).toInt) (h8 : 1 ≤ (T 8).toInt ∧ (T 8).toInt ≤ 80)
    {frost r1 bg la : Int32} {frost' : Int64} (hf : frost.toInt = frost'.toInt) (hf0 : 0 ≤ frost.toInt) (hf1 : frost.toInt ≤ 16000 * 600) (hr : 0 < r1.toInt ∧ r1.toInt ≤ 600) (hbg : bg = 601 ∨ 0 < bg.toInt ∧ bg.toInt ≤ r1.toInt) (hla : la = 601 ∨ 0 < la.toInt ∧ la.toInt ≤ r1.toInt) :
    ((X3_freeze_o_frost na ef frost bg C).toInt = (X7_freeze_o_frost frost' bg r1 E b).toInt ∧ 0 ≤ (X3_freeze_o_frost na ef frost bg C).toInt ∧ (X3_freeze_o_frost na ef frost bg C).toInt ≤ frost.toInt + 16000) ∧
    (X3_freeze_o_begun na ef frost r1 bg C = X7_freeze_o_began bg r1 E b ∧ (X3_freeze_o_begun na ef frost r1 bg C = 601 ∨ 0 < (X3_freeze_o_begun na ef frost r1 bg C).toInt ∧ (X3_freeze_o_begun na ef frost r1 bg C).toInt ≤ r1.toInt)) ∧
    (X3_freeze_o_last na ef frost r1 bg la C = X7_freeze_o_last frost' bg la r1 T E b ∧ (X3_freeze_o_last na ef frost r1 bg la C = 601 ∨ 0 < (X3_freeze_o_last na ef frost r1 bg la C).toInt ∧ (X3_freeze_o_last na ef frost r1 bg la C).toInt ≤ r1.toInt)) ∧
    sC lo (X3_freeze_o_cells na ef frost bg C) (X7_freeze_o_cell frost' bg r1 E b) := by
  have z6 : (601 : Int32).toInt = 601 := rfl
  have z4 : (400 : Int64).toInt = 400 := rfl
  have M := m56_0 (bg := bg) (by rcases hbg with h9 | h9; exact Or.inl h9; exact Or.inr (by omega))
  have N := needle_e h hna hb
  have TB := tb32 hlo C (fun k hk => (h k hk).2) 4 (Nat.le_refl 4)
  have SB := sg_b (C := fun k => (C k).toInt) hlo (fun k hk => (h k hk).2.1) 4 (Nat.le_refl 4)
  have ZC : ∀ (G : Nat → Int64), (∀ k, k < 4 → (G k).toInt = zr (C k).toInt) → sC lo (X3_takeBelowNought_o_cells C) G := by
    intro G hG k hk
    unfold X3_takeBelowNought_o_cells
    rw [TB.2.1 k hk, hG k hk]
    obtain ⟨q1, q2, q3⟩ := h k hk
    refine ⟨rfl, ?_, ?_⟩ <;> (rw [zr]; split <;> omega)
  have nr : ¬ (601 : Int32) ≤ r1 := by rw [le32, z6]; omega
  have eT : ((400 : Int64) * (T 8).toInt64).toInt = 400 * (T 8).toInt := by rw [b_mul (by rw [z4, b_of]; omega) (by rw [z4, b_of]; omega), z4, b_of]
  unfold X3_freeze_o_frost X3_freeze_o_begun X3_freeze_o_last X3_freeze_o_cells X7_freeze_o_frost X7_freeze_o_began X7_freeze_o_last X7_freeze_m174_last X7_freeze_o_cell
  by_cases c : bg = 601
  · have m0 := M.mpr c
    rw [if_pos c, if_pos c, if_pos c, if_pos c, if_pos m0]
    by_cases d : X3_needleStands na C = 0
    · have d' := N.mp d
      rw [if_pos d, if_pos d, if_pos d, if_pos d]
      have e7 : X7_freeze_m73_began bg r1 E b = bg := by rw [X7_freeze_m73_began, if_pos m0, if_pos d']
      have eL : X7_freeze_L76 bg r1 E b 5 0 frost' E = (0, frost', E) := by
        rw [X7_freeze_L76, if_neg (by decide), if_pos (by rw [e7, c]; exact Int32.le_refl 601)]
      rw [e7, eL]
      exact ⟨⟨hf, hf0, by omega⟩, ⟨rfl, hbg⟩, ⟨rfl, hla⟩, h⟩
    · have d' : ¬ X7_freeze_L4 E b 4 = 0 := fun h9 => d (N.mpr h9)
      rw [if_neg d, if_neg d, if_neg d, if_neg d]
      have e7 : X7_freeze_m73_began bg r1 E b = r1 := by rw [X7_freeze_m73_began, if_pos m0, if_neg d']
      obtain ⟨g1, g2, g3⟩ := tb64 (bg := bg) (rd := r1) (b := b) (E0 := E) (by rw [e7]; exact nr) (C := fun k => (C k).toInt) hlo (fun k hk => (h k hk).2) 5 0 frost' E (by decide) (by decide) (fun k hk _ => ((h k hk).1).symm) (by omega) (by omega)
      rw [if_pos m0] at g1
      rw [e7]
      exact ⟨⟨by omega, hf0, by omega⟩, ⟨rfl, Or.inr ⟨hr.1, Int.le_refl _⟩⟩, ⟨rfl, hla⟩, ZC _ (fun k hk => g2 k hk (Nat.zero_le k))⟩
  · have m0 : ¬ X7_freeze_m56_s0 bg = 0 := fun h9 => c (M.mp h9)
    rw [if_neg c, if_neg c, if_neg c, if_neg c, if_neg m0]
    have hb1 : 0 < bg.toInt ∧ bg.toInt ≤ r1.toInt := by rcases hbg with h9 | h9; exact absurd h9 c; exact h9
    have e7 : X7_freeze_m73_began bg r1 E b = bg := by rw [X7_freeze_m73_began, if_neg m0]
    obtain ⟨g1, g2, g3⟩ := tb64 (bg := bg) (rd := r1) (b := b) (E0 := E) (by rw [e7, le32, z6]; omega) (C := fun k => (C k).toInt) hlo (fun k hk => (h k hk).2) 5 0 frost' E (by decide) (by decide) (fun k hk _ => ((h k hk).1).symm) (by omega) (by omega)
    rw [if_neg m0, show sg (fun k => (C k).toInt) 0 = 0 from rfl] at g1
    have et : (X3_takeBelowNought C).toInt = sg (fun k => (C k).toInt) 4 := TB.1
    have ef2 : (frost + X3_takeBelowNought C).toInt = frost.toInt + sg (fun k => (C k).toInt) 4 := by rw [a_add (by rw [et]; omega) (by rw [et]; omega), et]
    rw [e7]
    have hc : (frost + X3_takeBelowNought C < ef) ↔ ((X7_freeze_L76 bg r1 E b 5 0 frost' E).2.1 < (400 : Int64) * (T 8).toInt64) := by rw [lt32, lt64, ef2, hef, eT, g1]; omega
    have Z := ZC _ (fun k hk => g2 k hk (Nat.zero_le k))
    by_cases d : frost + X3_takeBelowNought C < ef
    · rw [if_pos d, if_pos d, if_pos d, if_pos d, if_pos (hc.mp d)]
      exact ⟨⟨by rw [ef2, g1]; omega, by omega, by omega⟩, ⟨rfl, hbg⟩, ⟨rfl, hla⟩, Z⟩
    · rw [if_neg d, if_neg d, if_neg d, if_neg d, if_neg (fun h9 => d (hc.mpr h9))]
      exact ⟨⟨by rw [ef2, g1]; omega, by omega, by omega⟩, ⟨rfl, hbg⟩, ⟨rfl, Or.inr ⟨hr.1, Int.le_refl _⟩⟩, Z⟩
/-- class and reference stand alike behind a round -/
def sim (T : Nat → Int32) (gl left rime frost round bg rd la : Int32) (C : Nat → Int32) (left' rime' frost' : Int64) (bg' la' rounds : Int32) (E : Nat → Int64) (read : Nat → Int32) : Prop :=
  sC (-(100 * (T 0).toInt)) C E ∧ (left.toInt = left'.toInt ∧ 10000 ≤ left.toInt ∧ left.toInt ≤ 100000) ∧ (rime.toInt = rime'.toInt ∧ 0 ≤ rime.toInt ∧ rime.toInt ≤ 99) ∧ (frost.toInt = frost'.toInt ∧ 0 ≤ frost.toInt ∧ frost.toInt ≤ 16000 * round.toInt) ∧ (round = rounds ∧ 0 ≤ round.toInt ∧ round.toInt ≤ 600) ∧ (bg = bg' ∧ (bg = 601 ∨ 0 < bg.toInt ∧ bg.toInt ≤ round.toInt)) ∧ (la = la' ∧ (la = 601 ∨ 0 < la.toInt ∧ la.toInt ≤ round.toInt)) ∧ (rd = read gl.toNatClampNeg ∧ (rd = 601 ∨ 0 < rd.toInt ∧ rd.toInt ≤ round.toInt))
theorem step_e {T : Nat → Int32} {ca b rr air st me na ef : Int32} {R : Nat → Int32} (h : sPar T ca b rr air st me na ef R) {gl : Int32} (hgl : vp_in gl 4) {left rime frost round bg rd la : Int32} {C Lo : Nat → Int32} {left' rime' frost' : Int64} {bg' la' rounds : Int32} {E Lo' : Nat → Int64} {read : Nat → Int32} (hs : sim T gl left rime frost round bg rd la C left' rime' frost' bg' la' rounds E read) (hr : round.toInt < 600) :
    sim T gl (X3_oneRound_o_left st ca left C) (X3_oneRound_o_rime me ca rime C) (X3_oneRound_o_frost rr air na ef ca left rime frost bg C Lo R) (X3_oneRound_o_round round) (X3_oneRound_o_begun rr air na ef ca left rime frost round bg C Lo R) (X3_oneRound_o_reads rr air na ef ca gl left rime frost round bg rd C Lo R) (X3_oneRound_o_last rr air na ef ca left rime frost round bg la C Lo R) (X3_oneRound_o_cells rr air na ef ca left rime frost bg C Lo R)
      (X7_cool_o_left left' T E ca) (X7_cool_o_rime rime' T E ca) (X7_freeze_o_frost frost' bg' (rounds + 1) (X7_cool_o_cell left' rime' T E Lo' ca) b) (X7_freeze_o_began bg' (rounds + 1) (X7_cool_o_cell left' rime' T E Lo' ca) b) (X7_freeze_o_last frost' bg' la' (rounds + 1) T (X7_cool_o_cell left' rime' T E Lo' ca) b) (rounds + 1) (X7_freeze_o_cell frost' bg' (rounds + 1) (X7_cool_o_cell left' rime' T E Lo' ca) b) (X7_freeze_o_read frost' bg' (rounds + 1) (X7_cool_o_cell left' rime' T E Lo' ca) read b) ∧ (X3_oneRound_o_round round).toInt = round.toInt + 1 := by
  obtain ⟨hC, ⟨l1, l2, l3⟩, ⟨m1, m2, m3⟩, ⟨f1, f2, f3⟩, ⟨r1, r2, r3⟩, ⟨b1, b2⟩, ⟨a1, a2⟩, ⟨d1, d2⟩⟩ := hs
  subst r1; subst b1; subst a1
  have z1 : (1 : Int32).toInt = 1 := rfl
  have er : (round + 1).toInt = round.toInt + 1 := by rw [a_add (by rw [z1]; omega) (by rw [z1]; omega), z1]
  have S := cell_e (Lo := Lo) (Lo' := Lo') h hC l1 l2 m1
  have h0 := h.1
  obtain ⟨-, -, h8, -, -, -, hna, hb, hef, -⟩ := id h
  have F := freeze_e (by omega) (by omega) S hna hb hef h8 (frost := frost) (r1 := round + 1) (bg := bg) (la := la) f1 f2 (by omega) (by omega) (by rcases b2 with h9 | h9; exact Or.inl h9; exact Or.inr (by omega)) (by rcases a2 with h9 | h9; exact Or.inl h9; exact Or.inr (by omega))
  obtain ⟨⟨F1, F2, F3⟩, ⟨F4, F5⟩, ⟨F6, F7⟩, F8⟩ := F
  refine ⟨⟨F8, left_e h hC l1 l2 l3, rime_e h hC m1 m2 m3, ⟨F1, F2, ?_⟩, ⟨rfl, ?_, ?_⟩, ⟨F4, ?_⟩, ⟨F6, ?_⟩, ?_⟩, er⟩
  · show (X3_freeze_o_frost na ef frost bg _).toInt ≤ 16000 * (round + 1).toInt
    rw [er]
    omega
  · show 0 ≤ (round + 1).toInt
    omega
  · show (round + 1).toInt ≤ 600
    omega
  · exact F5
  · exact F7
  · have g4 := fy_lt hgl
    obtain ⟨c1, c2, c3⟩ := F8 gl.toNatClampNeg g4
    have z : (0 : Int32).toInt = 0 := rfl
    have z' : (0 : Int64).toInt = 0 := rfl
    unfold X3_oneRound_o_reads X3_oneRound_m174_reads X7_freeze_o_read
    rw [(rd_l frost' bg (round + 1) (X7_cool_o_cell left' rime' T E Lo' ca) read b 4 gl.toNatClampNeg).1 g4, ← d1]
    by_cases c : rd = 601
    · rw [if_pos c, if_pos c]
      have hc : ((0 : Int32) < (X3_freeze_o_cells na ef frost bg (X3_oneRound_m140_cells rr air ca left rime C Lo R)) gl.toNatClampNeg) ↔ ((0 : Int64) < (X7_freeze_L76 bg (round + 1) (X7_cool_o_cell left' rime' T E Lo' ca) b 5 0 frost' (X7_cool_o_cell left' rime' T E Lo' ca)).2.2 gl.toNatClampNeg) := by
        rw [lt32, lt64, z, z', c1]
        exact Iff.rfl
      by_cases d : (0 : Int32) < (X3_freeze_o_cells na ef frost bg (X3_oneRound_m140_cells rr air ca left rime C Lo R)) gl.toNatClampNeg
      · rw [if_pos d, if_pos (hc.mp d)]
        exact ⟨rfl, Or.inl c⟩
      · rw [if_neg d, if_neg (fun h9 => d (hc.mpr h9))]
        refine ⟨rfl, Or.inr ⟨by omega, ?_⟩⟩
        show (round + 1).toInt ≤ (round + 1).toInt
        exact Int.le_refl _
    · rw [if_neg c, if_neg c]
      refine ⟨rfl, ?_⟩
      rcases d2 with h9 | h9
      · exact Or.inl h9
      · refine Or.inr ⟨h9.1, ?_⟩
        show rd.toInt ≤ (round + 1).toInt
        omega
