/-! runs side by side -/
theorem nI_t {j : Nat} (h : j < 2 ^ 31) : (nI j).toInt = (j : Int) := nI_toInt h
theorem go_e {T : Nat → Int32} {ca b rr air st me na ef : Int32} {Ra : Nat → Int32} (h : sPar T ca b rr air st me na ef Ra) {gl : Int32} (hgl : vp_in gl 4) {R : Int32} (hR : R.toInt ≤ 600) :
    ∀ (n j : Nat) (left rime frost round bg rd la : Int32) (C Lo : Nat → Int32) (left' rime' frost' : Int64) (bg' la' rounds : Int32) (E Lo' : Nat → Int64) (read : Nat → Int32), sim T gl left rime frost round bg rd la C left' rime' frost' bg' la' rounds E read → round.toInt = j → R.toInt - j < n →
      sim T gl (X3_goOn_L2 rr air st me na ef ca gl Ra R n j left rime frost round bg rd la C Lo).2.1 (X3_goOn_L2 rr air st me na ef ca gl Ra R n j left rime frost round bg rd la C Lo).2.2.1 (X3_goOn_L2 rr air st me na ef ca gl Ra R n j left rime frost round bg rd la C Lo).2.2.2.1 (X3_goOn_L2 rr air st me na ef ca gl Ra R n j left rime frost round bg rd la C Lo).2.2.2.2.1 (X3_goOn_L2 rr air st me na ef ca gl Ra R n j left rime frost round bg rd la C Lo).2.2.2.2.2.1 (X3_goOn_L2 rr air st me na ef ca gl Ra R n j left rime frost round bg rd la C Lo).2.2.2.2.2.2.1 (X3_goOn_L2 rr air st me na ef ca gl Ra R n j left rime frost round bg rd la C Lo).2.2.2.2.2.2.2.1 (X3_goOn_L2 rr air st me na ef ca gl Ra R n j left rime frost round bg rd la C Lo).2.2.2.2.2.2.2.2.1
        (X7_run_L89 T b ca R n left' rime' frost' bg' la' rounds E Lo' read).1 (X7_run_L89 T b ca R n left' rime' frost' bg' la' rounds E Lo' read).2.1 (X7_run_L89 T b ca R n left' rime' frost' bg' la' rounds E Lo' read).2.2.1 (X7_run_L89 T b ca R n left' rime' frost' bg' la' rounds E Lo' read).2.2.2.1 (X7_run_L89 T b ca R n left' rime' frost' bg' la' rounds E Lo' read).2.2.2.2.1 (X7_run_L89 T b ca R n left' rime' frost' bg' la' rounds E Lo' read).2.2.2.2.2.1 (X7_run_L89 T b ca R n left' rime' frost' bg' la' rounds E Lo' read).2.2.2.2.2.2.1 (X7_run_L89 T b ca R n left' rime' frost' bg' la' rounds E Lo' read).2.2.2.2.2.2.2.2 := by
  intro n
  induction n with
  | zero =>
    intro j left rime frost round bg rd la C Lo left' rime' frost' bg' la' rounds E Lo' read hs hj hn
    exact hs
  | succ n ih =>
    intro j left rime frost round bg rd la C Lo left' rime' frost' bg' la' rounds E Lo' read hs hj hn
    have hs0 := hs
    obtain ⟨-, -, -, -, ⟨r1, r2, r3⟩, -, ⟨a1, a2⟩, -⟩ := hs0
    rw [X3_goOn_L2, X7_run_L89]
    have ej : (nI j).toInt = (j : Int) := nI_t (by omega)
    by_cases c : R ≤ nI j
    · have c' : R ≤ rounds := by rw [← r1]; rw [le32] at c ⊢; omega
      rw [if_pos c, if_pos c']
      exact hs
    · have c' : ¬ R ≤ rounds := by rw [← r1]; rw [le32] at c ⊢; omega
      rw [if_neg c, if_neg c']
      by_cases d : la = 601
      · rw [if_pos d, if_pos (by rw [← a1]; exact d)]
        rw [le32] at c
        have S := step_e (Lo := Lo) (Lo' := Lo') h hgl hs (by omega)
        exact ih (j + 1) _ _ _ _ _ _ _ _ _ _ _ _ _ _ _ _ _ _ S.1 (by rw [S.2, hj]; omega) (by omega)
      · rw [if_neg d, if_neg (by rw [← a1]; exact d)]
        exact hs
/-- what a meaning reads off -/
def mv (me : Int32) (bg rd la : Int32) : Int32 := if me = 0 then bg else if me = 1 then rd else la
theorem st_bg {bg r b : Int32} {E : Nat → Int64} (h : bg = 601 ∨ bg.toInt ≤ 600) : (¬ bg = 601 → X7_freeze_o_began bg r E b = bg) ∧ (bg = 601 → X7_freeze_o_began bg r E b = 601 ∨ X7_freeze_o_began bg r E b = r) := by
  have M := m56_0 h
  unfold X7_freeze_o_began X7_freeze_m73_began
  refine ⟨fun c => by rw [if_neg (fun h9 => c (M.mp h9))], fun c => ?_⟩
  rw [if_pos (M.mpr c)]
  split
  · exact Or.inl c
  · exact Or.inr rfl
theorem st_rd {fr : Int64} {bg r b : Int32} {E : Nat → Int64} {read : Nat → Int32} {k : Nat} (hk : k < 4) : (¬ read k = 601 → X7_freeze_o_read fr bg r E read b k = read k) ∧ (read k = 601 → X7_freeze_o_read fr bg r E read b k = 601 ∨ X7_freeze_o_read fr bg r E read b k = r) := by
  unfold X7_freeze_o_read
  rw [(rd_l fr bg r E read b 4 k).1 hk]
  refine ⟨fun c => by rw [if_neg c], fun c => ?_⟩
  rw [if_pos c]
  split
  · exact Or.inl c
  · exact Or.inr rfl
theorem st_la {fr : Int64} {bg la r b : Int32} {T : Nat → Int32} {E : Nat → Int64} (h : la = 601) : X7_freeze_o_last fr bg la r T E b = 601 ∨ X7_freeze_o_last fr bg la r T E b = r := by
  unfold X7_freeze_o_last X7_freeze_m174_last
  split
  · exact Or.inl h
  · split
    · exact Or.inl h
    · exact Or.inr rfl
/-- what has come stays; what hasn't comes later, or never -/
theorem lp_e (T : Nat → Int32) (b ca me : Int32) {k : Nat} (hk : k < 4) :
    ∀ (n : Nat) (left' rime' frost' : Int64) (bg la rounds : Int32) (E Lo : Nat → Int64) (read : Nat → Int32), 0 ≤ rounds.toInt → (bg = 601 ∨ bg.toInt ≤ 600) → (mv me bg (read k) la = 601 ∨ (mv me bg (read k) la).toInt ≤ 600) →
      (¬ mv me bg (read k) la = 601 → mv me (X7_run_L89 T b ca 600 n left' rime' frost' bg la rounds E Lo read).2.2.2.1 ((X7_run_L89 T b ca 600 n left' rime' frost' bg la rounds E Lo read).2.2.2.2.2.2.2.2 k) (X7_run_L89 T b ca 600 n left' rime' frost' bg la rounds E Lo read).2.2.2.2.1 = mv me bg (read k) la) ∧
      (mv me bg (read k) la = 601 → mv me (X7_run_L89 T b ca 600 n left' rime' frost' bg la rounds E Lo read).2.2.2.1 ((X7_run_L89 T b ca 600 n left' rime' frost' bg la rounds E Lo read).2.2.2.2.2.2.2.2 k) (X7_run_L89 T b ca 600 n left' rime' frost' bg la rounds E Lo read).2.2.2.2.1 = 601 ∨ rounds.toInt < (mv me (X7_run_L89 T b ca 600 n left' rime' frost' bg la rounds E Lo read).2.2.2.1 ((X7_run_L89 T b ca 600 n left' rime' frost' bg la rounds E Lo read).2.2.2.2.2.2.2.2 k) (X7_run_L89 T b ca 600 n left' rime' frost' bg la rounds E Lo read).2.2.2.2.1).toInt ∧ (mv me (X7_run_L89 T b ca 600 n left' rime' frost' bg la rounds E Lo read).2.2.2.1 ((X7_run_L89 T b ca 600 n left' rime' frost' bg la rounds E Lo read).2.2.2.2.2.2.2.2 k) (X7_run_L89 T b ca 600 n left' rime' frost' bg la rounds E Lo read).2.2.2.2.1).toInt ≤ 600) := by
  intro n
  induction n with
  | zero =>
    intro left' rime' frost' bg la rounds E Lo read h0 hb hv
    exact ⟨fun _ => rfl, fun h => Or.inl h⟩
  | succ n ih =>
    intro left' rime' frost' bg la rounds E Lo read h0 hb hv
    rw [X7_run_L89]
    have z6 : (600 : Int32).toInt = 600 := rfl
    have z1 : (1 : Int32).toInt = 1 := rfl
    by_cases c : (600 : Int32) ≤ rounds
    · rw [if_pos c]
      exact ⟨fun _ => rfl, fun h => Or.inl h⟩
    · rw [if_neg c]
      rw [le32, z6] at c
      by_cases d : la = 601
      · rw [if_pos d]
        have er : (rounds + 1).toInt = rounds.toInt + 1 := by rw [a_add (by rw [z1]; omega) (by rw [z1]; omega), z1]
        have SB := st_bg (bg := bg) (r := rounds + 1) (b := b) (E := X7_cool_o_cell left' rime' T E Lo ca) hb
        have SR := st_rd (fr := frost') (bg := bg) (r := rounds + 1) (b := b) (E := X7_cool_o_cell left' rime' T E Lo ca) (read := read) hk
        have SL := st_la (fr := frost') (bg := bg) (la := la) (r := rounds + 1) (b := b) (T := T) (E := X7_cool_o_cell left' rime' T E Lo ca) d
        have hb' : X7_freeze_o_began bg (rounds + 1) (X7_cool_o_cell left' rime' T E Lo ca) b = 601 ∨ (X7_freeze_o_began bg (rounds + 1) (X7_cool_o_cell left' rime' T E Lo ca) b).toInt ≤ 600 := by
          by_cases e : bg = 601
          · rcases SB.2 e with h9 | h9
            · exact Or.inl h9
            · rw [h9]; exact Or.inr (by omega)
          · rw [SB.1 e]; exact hb
        have hm : (¬ mv me bg (read k) la = 601 → mv me (X7_freeze_o_began bg (rounds + 1) (X7_cool_o_cell left' rime' T E Lo ca) b) (X7_freeze_o_read frost' bg (rounds + 1) (X7_cool_o_cell left' rime' T E Lo ca) read b k) (X7_freeze_o_last frost' bg la (rounds + 1) T (X7_cool_o_cell left' rime' T E Lo ca) b) = mv me bg (read k) la) ∧ (mv me bg (read k) la = 601 → mv me (X7_freeze_o_began bg (rounds + 1) (X7_cool_o_cell left' rime' T E Lo ca) b) (X7_freeze_o_read frost' bg (rounds + 1) (X7_cool_o_cell left' rime' T E Lo ca) read b k) (X7_freeze_o_last frost' bg la (rounds + 1) T (X7_cool_o_cell left' rime' T E Lo ca) b) = 601 ∨ mv me (X7_freeze_o_began bg (rounds + 1) (X7_cool_o_cell left' rime' T E Lo ca) b) (X7_freeze_o_read frost' bg (rounds + 1) (X7_cool_o_cell left' rime' T E Lo ca) read b k) (X7_freeze_o_last frost' bg la (rounds + 1) T (X7_cool_o_cell left' rime' T E Lo ca) b) = rounds + 1) := by
          unfold mv
          by_cases m0 : me = 0
          · rw [if_pos m0, if_pos m0]; exact SB
          · rw [if_neg m0, if_neg m0]
            by_cases m1 : me = 1
            · rw [if_pos m1, if_pos m1]; exact SR
            · rw [if_neg m1, if_neg m1]
              exact ⟨fun h9 => absurd d h9, fun _ => SL⟩
        obtain ⟨i1, i2⟩ := ih (X7_cool_o_left left' T E ca) (X7_cool_o_rime rime' T E ca) (X7_freeze_o_frost frost' bg (rounds + 1) (X7_cool_o_cell left' rime' T E Lo ca) b) (X7_freeze_o_began bg (rounds + 1) (X7_cool_o_cell left' rime' T E Lo ca) b) (X7_freeze_o_last frost' bg la (rounds + 1) T (X7_cool_o_cell left' rime' T E Lo ca) b) (rounds + 1) (X7_freeze_o_cell frost' bg (rounds + 1) (X7_cool_o_cell left' rime' T E Lo ca) b) (X7_cool_o_loss left' rime' T E Lo ca) (X7_freeze_o_read frost' bg (rounds + 1) (X7_cool_o_cell left' rime' T E Lo ca) read b) (by omega) hb' (by
          by_cases e : mv me bg (read k) la = 601
          · rcases hm.2 e with h9 | h9
            · exact Or.inl h9
            · rw [h9]; exact Or.inr (by omega)
          · rw [hm.1 e]; exact hv)
        refine ⟨fun e => ?_, fun e => ?_⟩
        · rw [i1 (by rw [hm.1 e]; exact e), hm.1 e]
        · rcases hm.2 e with h9 | h9
          · rcases i2 h9 with h8 | h8
            · exact Or.inl h8
            · exact Or.inr (by omega)
          · by_cases e6 : rounds + 1 = 601
            · have : (rounds + 1).toInt = 601 := by rw [e6]; rfl
              omega
            · have h7 := i1 (by rw [h9]; exact e6)
              rw [h7, h9]
              exact Or.inr (by omega)
      · rw [if_neg d]
        exact ⟨fun _ => rfl, fun h => Or.inl h⟩
theorem kn_mv (bg rd la me : Int32) : X3_known bg rd la me = mv me bg rd la := rfl
/-- the class stops as soon as what is meant has come: it reads the same, if it comes within the rounds -/
theorem tb_e {T : Nat → Int32} {ca b rr air st me na ef : Int32} {Ra : Nat → Int32} (h : sPar T ca b rr air st me na ef Ra) {gl : Int32} (hgl : vp_in gl 4) (mg : Int32) {R : Int32} (hR : R.toInt ≤ 600) :
    ∀ (n n' j : Nat) (left rime frost round bg rd la : Int32) (C Lo : Nat → Int32) (left' rime' frost' : Int64) (bg' la' rounds : Int32) (E Lo' : Nat → Int64) (read : Nat → Int32), sim T gl left rime frost round bg rd la C left' rime' frost' bg' la' rounds E read → round.toInt = j → R.toInt - j < n → 600 - (j : Int) < n' → mv mg bg rd la = 601 →
      X3_known (X3_timeBy_L2 rr air st me na ef ca gl Ra mg R n j left rime frost round bg rd la C Lo).2.2.2.2.2.1 (X3_timeBy_L2 rr air st me na ef ca gl Ra mg R n j left rime frost round bg rd la C Lo).2.2.2.2.2.2.1 (X3_timeBy_L2 rr air st me na ef ca gl Ra mg R n j left rime frost round bg rd la C Lo).2.2.2.2.2.2.2.1 mg =
        (if (mv mg (X7_run_L89 T b ca 600 n' left' rime' frost' bg' la' rounds E Lo' read).2.2.2.1 ((X7_run_L89 T b ca 600 n' left' rime' frost' bg' la' rounds E Lo' read).2.2.2.2.2.2.2.2 gl.toNatClampNeg) (X7_run_L89 T b ca 600 n' left' rime' frost' bg' la' rounds E Lo' read).2.2.2.2.1).toInt ≤ R.toInt then (mv mg (X7_run_L89 T b ca 600 n' left' rime' frost' bg' la' rounds E Lo' read).2.2.2.1 ((X7_run_L89 T b ca 600 n' left' rime' frost' bg' la' rounds E Lo' read).2.2.2.2.2.2.2.2 gl.toNatClampNeg) (X7_run_L89 T b ca 600 n' left' rime' frost' bg' la' rounds E Lo' read).2.2.2.2.1) else 601) := by
  intro n
  induction n with
  | zero =>
    intro n' j left rime frost round bg rd la C Lo left' rime' frost' bg' la' rounds E Lo' read hs hj hn hn' hv
    have hs0 := hs
    obtain ⟨-, -, -, -, ⟨r1, r2, r3⟩, ⟨b1, b2⟩, ⟨a1, a2⟩, ⟨d1, d2⟩⟩ := hs0
    have e8 : rounds.toInt = (j : Int) := by rw [← r1]; exact hj
    have L := (lp_e T b ca mg (k := gl.toNatClampNeg) (fy_lt hgl) n' left' rime' frost' bg' la' rounds E Lo' read (by rw [← r1]; omega) (by rw [← b1]; rcases b2 with h9 | h9; exact Or.inl h9; exact Or.inr (by omega)) (by rw [← b1, ← a1, ← d1]; exact Or.inl hv)).2 (by rw [← b1, ← a1, ← d1]; exact hv)
    show X3_known bg rd la mg = _
    rw [kn_mv, hv]
    rcases L with h9 | h9
    · rw [h9, ite_self]
    · rw [if_neg (by omega)]
  | succ n ih =>
    intro n' j left rime frost round bg rd la C Lo left' rime' frost' bg' la' rounds E Lo' read hs hj hn hn' hv
    have hs0 := hs
    obtain ⟨-, -, -, -, ⟨r1, r2, r3⟩, ⟨b1, b2⟩, ⟨a1, a2⟩, ⟨d1, d2⟩⟩ := hs0
    have e8 : rounds.toInt = (j : Int) := by rw [← r1]; exact hj
    have ej : (nI j).toInt = (j : Int) := nI_t (by omega)
    have L := (lp_e T b ca mg (k := gl.toNatClampNeg) (fy_lt hgl) n' left' rime' frost' bg' la' rounds E Lo' read (by rw [← r1]; omega) (by rw [← b1]; rcases b2 with h9 | h9; exact Or.inl h9; exact Or.inr (by omega)) (by rw [← b1, ← a1, ← d1]; exact Or.inl hv)).2 (by rw [← b1, ← a1, ← d1]; exact hv)
    rw [X3_timeBy_L2]
    by_cases c : R ≤ nI j
    · rw [if_pos c]
      rw [le32] at c
      show X3_known bg rd la mg = _
      rw [kn_mv, hv]
      rcases L with h9 | h9
      · rw [h9, ite_self]
      · rw [if_neg (by omega)]
    · rw [if_neg c]
      rw [le32] at c
      obtain ⟨n1, rfl⟩ : ∃ n1, n' = n1 + 1 := ⟨n' - 1, by omega⟩
      have z6 : (600 : Int32).toInt = 600 := rfl
      have c6 : ¬ (600 : Int32) ≤ rounds := by rw [← r1, le32, z6]; omega
      by_cases d : la = 601
      · rw [if_pos d, if_pos (show X3_known bg rd la mg = 601 from hv)]
        have S := step_e (Lo := Lo) (Lo' := Lo') h hgl hs (by omega)
        have e9 : X7_run_L89 T b ca 600 (n1 + 1) left' rime' frost' bg' la' rounds E Lo' read = X7_run_L89 T b ca 600 n1 (X7_cool_o_left left' T E ca) (X7_cool_o_rime rime' T E ca) (X7_freeze_o_frost frost' bg' (rounds + 1) (X7_cool_o_cell left' rime' T E Lo' ca) b) (X7_freeze_o_began bg' (rounds + 1) (X7_cool_o_cell left' rime' T E Lo' ca) b) (X7_freeze_o_last frost' bg' la' (rounds + 1) T (X7_cool_o_cell left' rime' T E Lo' ca) b) (rounds + 1) (X7_freeze_o_cell frost' bg' (rounds + 1) (X7_cool_o_cell left' rime' T E Lo' ca) b) (X7_cool_o_loss left' rime' T E Lo' ca) (X7_freeze_o_read frost' bg' (rounds + 1) (X7_cool_o_cell left' rime' T E Lo' ca) read b) := by
          rw [X7_run_L89, if_neg c6, if_pos (by rw [← a1]; exact d)]
        rw [e9]
        by_cases q : mv mg (X3_oneRound_o_begun rr air na ef ca left rime frost round bg C Lo Ra) (X3_oneRound_o_reads rr air na ef ca gl left rime frost round bg rd C Lo Ra) (X3_oneRound_o_last rr air na ef ca left rime frost round bg la C Lo Ra) = 601
        · exact ih n1 (j + 1) _ _ _ _ _ _ _ _ _ _ _ _ _ _ _ _ _ _ S.1 (by rw [S.2, hj]; omega) (by omega) (by omega) q
        · obtain ⟨n2, rfl⟩ : ∃ n2, n = n2 + 1 := ⟨n - 1, by omega⟩
          obtain ⟨S1, S2⟩ := S
          obtain ⟨-, -, -, -, ⟨s1, s2, s3⟩, ⟨t1, t2⟩, ⟨u1, u2⟩, ⟨v1, v2⟩⟩ := S1
          have P := (lp_e T b ca mg (k := gl.toNatClampNeg) (fy_lt hgl) n1 (X7_cool_o_left left' T E ca) (X7_cool_o_rime rime' T E ca) (X7_freeze_o_frost frost' bg' (rounds + 1) (X7_cool_o_cell left' rime' T E Lo' ca) b) (X7_freeze_o_began bg' (rounds + 1) (X7_cool_o_cell left' rime' T E Lo' ca) b) (X7_freeze_o_last frost' bg' la' (rounds + 1) T (X7_cool_o_cell left' rime' T E Lo' ca) b) (rounds + 1) (X7_freeze_o_cell frost' bg' (rounds + 1) (X7_cool_o_cell left' rime' T E Lo' ca) b) (X7_cool_o_loss left' rime' T E Lo' ca) (X7_freeze_o_read frost' bg' (rounds + 1) (X7_cool_o_cell left' rime' T E Lo' ca) read b) (by rw [← s1]; exact s2) (by rw [← t1]; rcases t2 with h9 | h9; exact Or.inl h9; exact Or.inr (by omega)) (by
            rw [← t1, ← u1, ← v1]
            unfold mv
            split
            · rcases t2 with h9 | h9
              · exact Or.inl h9
              · exact Or.inr (by omega)
            · split
              · rcases v2 with h9 | h9
                · exact Or.inl h9
                · exact Or.inr (by omega)
              · rcases u2 with h9 | h9
                · exact Or.inl h9
                · exact Or.inr (by omega))).1 (by rw [← t1, ← u1, ← v1]; exact q)
          rw [P, ← t1, ← u1, ← v1]
          have le : (mv mg (X3_oneRound_o_begun rr air na ef ca left rime frost round bg C Lo Ra) (X3_oneRound_o_reads rr air na ef ca gl left rime frost round bg rd C Lo Ra) (X3_oneRound_o_last rr air na ef ca left rime frost round bg la C Lo Ra)).toInt ≤ R.toInt := by
            unfold mv at q ⊢
            split
            · rename_i m0
              rw [if_pos m0] at q
              rcases t2 with h9 | h9
              · exact absurd h9 q
              · omega
            · rename_i m0
              rw [if_neg m0] at q
              split
              · rename_i m1
                rw [if_pos m1] at q
                rcases v2 with h9 | h9
                · exact absurd h9 q
                · omega
              · rename_i m1
                rw [if_neg m1] at q
                rcases u2 with h9 | h9
                · exact absurd h9 q
                · omega
          rw [if_pos le]
          rw [X3_timeBy_L2]
          split
          · rfl
          · split
            · rw [if_neg (show ¬ X3_known _ _ _ mg = 601 from q)]
              rfl
            · rfl
      · rw [if_neg d]
        show X3_known bg rd la mg = _
        rw [kn_mv, hv]
        have e9 : X7_run_L89 T b ca 600 (n1 + 1) left' rime' frost' bg' la' rounds E Lo' read = (left', rime', frost', bg', la', rounds, E, Lo', read) := by
          rw [X7_run_L89, if_neg c6, if_neg (by rw [← a1]; exact d)]
        rw [e9]
        show 601 = if (mv mg bg' (read gl.toNatClampNeg) la').toInt ≤ R.toInt then mv mg bg' (read gl.toNatClampNeg) la' else 601
        rw [← b1, ← a1, ← d1, hv, ite_self]
