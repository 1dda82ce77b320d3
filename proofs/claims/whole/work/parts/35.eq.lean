theorem eq_pail {x_now_night_start : Nat → Int32} {x_now_night_mass : Nat → Int32} {x_now_night_row : Nat → Int64} {x_now_night_alike : Nat → Int32} {x_now_tries_kept : Nat → Int32} {x_now_tries_ended : Nat → Int32} {x_now_tries_number : Int32} {x_im0_night_start : Nat → Int32} {x_im0_night_mass : Nat → Int32} {x_im0_night_row : Nat → Int64} {x_im0_night_alike : Nat → Int32} {x_im0_tries_kept : Nat → Int32} {x_im0_tries_ended : Nat → Int32} {x_im0_tries_number : Int32} {x_im1_night_start : Nat → Int32} {x_im1_night_mass : Nat → Int32} {x_im1_night_row : Nat → Int64} {x_im1_night_alike : Nat → Int32} {x_im1_tries_kept : Nat → Int32} {x_im1_tries_ended : Nat → Int32} {x_im1_tries_number : Int32} {x_taken : Nat → Int32} {x_signs_number : Int32} {x_signs_codes : Nat → Int32} {m_start : Nat → Int32} {m_mass : Nat → Int32} {m_rows : Nat → Int32} {m_told : Nat → Int32} {m_kept : Nat → Int32} {m_ended : Nat → Int32} {m_many : Int32} {m_image : Nat → Int32} {m_isKept : Nat → Int32} {m_signs : Int32} {m_sign : Nat → Int32} (hR : Rl x_now_night_start x_now_night_mass x_now_night_row x_now_night_alike x_now_tries_kept x_now_tries_ended x_now_tries_number x_im0_night_start x_im0_night_mass x_im0_night_row x_im0_night_alike x_im0_tries_kept x_im0_tries_ended x_im0_tries_number x_im1_night_start x_im1_night_mass x_im1_night_row x_im1_night_alike x_im1_tries_kept x_im1_tries_ended x_im1_tries_number x_taken x_signs_number x_signs_codes m_start m_mass m_rows m_told m_kept m_ended m_many m_image m_isKept m_signs m_sign) (p0 : Int32) (p1 : Int32) (p2 : Int32) : (X6_pail x_now_night_start x_now_night_mass p0 p1 p2) = (X7_pail m_start m_mass p0 p1 p2) := by
  obtain ⟨hN, -⟩ := hR
  unfold X6_pail X7_pail
  rw [ip_e, two_e, two_e]
  by_cases a : X6_within p0 0 1 = 0
  · rw [if_pos a, if_pos a]
  · rw [if_neg a, if_neg a]
    have k := fy_lt (fx_w1 a)
    by_cases b : X6_within p1 0 1 = 0
    · rw [if_neg (nw01 b).1, if_neg (nw01 b).2, if_pos b]
    · rw [if_neg b]
      rcases w01 b with e | e
      · subst e
        rw [if_pos rfl, if_neg (by decide : ¬ (0 : Int32) = 1)]
        show _ = if X6_within p2 0 100 = 0 then _ else _
        by_cases c : X6_within p2 0 100 = 0
        · rw [if_pos c, if_pos c]
        · rw [if_neg c, if_neg c]
          exact (hN.1 _ k).1
      · subst e
        rw [if_neg (by decide : ¬ (1 : Int32) = 0), if_pos rfl]
        show _ = if X6_within p2 10 100 = 0 then _ else _
        by_cases c : X6_within p2 10 100 = 0
        · rw [if_pos c, if_pos c]
        · rw [if_neg c, if_neg c]
          exact (hN.2.1 _ k).1
theorem rel_pail {x_now_night_start : Nat → Int32} {x_now_night_mass : Nat → Int32} {x_now_night_row : Nat → Int64} {x_now_night_alike : Nat → Int32} {x_now_tries_kept : Nat → Int32} {x_now_tries_ended : Nat → Int32} {x_now_tries_number : Int32} {x_im0_night_start : Nat → Int32} {x_im0_night_mass : Nat → Int32} {x_im0_night_row : Nat → Int64} {x_im0_night_alike : Nat → Int32} {x_im0_tries_kept : Nat → Int32} {x_im0_tries_ended : Nat → Int32} {x_im0_tries_number : Int32} {x_im1_night_start : Nat → Int32} {x_im1_night_mass : Nat → Int32} {x_im1_night_row : Nat → Int64} {x_im1_night_alike : Nat → Int32} {x_im1_tries_kept : Nat → Int32} {x_im1_tries_ended : Nat → Int32} {x_im1_tries_number : Int32} {x_taken : Nat → Int32} {x_signs_number : Int32} {x_signs_codes : Nat → Int32} {m_start : Nat → Int32} {m_mass : Nat → Int32} {m_rows : Nat → Int32} {m_told : Nat → Int32} {m_kept : Nat → Int32} {m_ended : Nat → Int32} {m_many : Int32} {m_image : Nat → Int32} {m_isKept : Nat → Int32} {m_signs : Int32} {m_sign : Nat → Int32} (hR : Rl x_now_night_start x_now_night_mass x_now_night_row x_now_night_alike x_now_tries_kept x_now_tries_ended x_now_tries_number x_im0_night_start x_im0_night_mass x_im0_night_row x_im0_night_alike x_im0_tries_kept x_im0_tries_ended x_im0_tries_number x_im1_night_start x_im1_night_mass x_im1_night_row x_im1_night_alike x_im1_tries_kept x_im1_tries_ended x_im1_tries_number x_taken x_signs_number x_signs_codes m_start m_mass m_rows m_told m_kept m_ended m_many m_image m_isKept m_signs m_sign) (p0 : Int32) (p1 : Int32) (p2 : Int32) : Rl (X6_pail_o_now_night_start x_now_night_start p0 p1 p2) (X6_pail_o_now_night_mass x_now_night_mass p0 p1 p2) x_now_night_row x_now_night_alike x_now_tries_kept x_now_tries_ended x_now_tries_number x_im0_night_start x_im0_night_mass x_im0_night_row x_im0_night_alike x_im0_tries_kept x_im0_tries_ended x_im0_tries_number x_im1_night_start x_im1_night_mass x_im1_night_row x_im1_night_alike x_im1_tries_kept x_im1_tries_ended x_im1_tries_number x_taken x_signs_number x_signs_codes (X7_pail_o_start m_start p0 p1 p2) (X7_pail_o_mass m_mass p0 p1 p2) m_rows m_told m_kept m_ended m_many m_image m_isKept m_signs m_sign := by
  obtain ⟨hN, hq⟩ := hR
  refine ⟨?_, hq⟩
  unfold X6_pail_o_now_night_start X6_pail_o_now_night_mass X7_pail_o_start X7_pail_o_mass
  rw [ip_e, two_e, two_e]
  by_cases a : X6_within p0 0 1 = 0
  · rw [if_pos a, if_pos a, if_pos a, if_pos a]; exact hN
  · rw [if_neg a, if_neg a, if_neg a, if_neg a]
    by_cases b : X6_within p1 0 1 = 0
    · rw [if_neg (nw01 b).1, if_neg (nw01 b).1, if_neg (nw01 b).2, if_neg (nw01 b).2, if_pos b, if_pos b]; exact hN
    · rw [if_neg b, if_neg b]
      rcases w01 b with e | e
      · subst e
        rw [if_pos rfl, if_pos rfl, if_neg (by decide : ¬ (0 : Int32) = 1), if_neg (by decide : ¬ (0 : Int32) = 1)]
        show RN _ _ _ _ (if X6_within p2 0 100 = 0 then _ else _) (if X6_within p2 0 100 = 0 then _ else _) _ _
        by_cases c : X6_within p2 0 100 = 0
        · rw [if_pos c, if_pos c, if_pos c, if_pos c]; exact hN
        · rw [if_neg c, if_neg c, if_neg c, if_neg c]
          exact rn_us hN (w_b c).1 (w_b c).2
      · subst e
        rw [if_neg (by decide : ¬ (1 : Int32) = 0), if_neg (by decide : ¬ (1 : Int32) = 0), if_pos rfl, if_pos rfl]
        show RN _ _ _ _ (if X6_within p2 10 100 = 0 then _ else _) (if X6_within p2 10 100 = 0 then _ else _) _ _
        by_cases c : X6_within p2 10 100 = 0
        · rw [if_pos c, if_pos c, if_pos c, if_pos c]; exact hN
        · rw [if_neg c, if_neg c, if_neg c, if_neg c]
          exact rn_um hN (w_b c).1 (w_b c).2
theorem eq_row {x_now_night_start : Nat → Int32} {x_now_night_mass : Nat → Int32} {x_now_night_row : Nat → Int64} {x_now_night_alike : Nat → Int32} {x_now_tries_kept : Nat → Int32} {x_now_tries_ended : Nat → Int32} {x_now_tries_number : Int32} {x_im0_night_start : Nat → Int32} {x_im0_night_mass : Nat → Int32} {x_im0_night_row : Nat → Int64} {x_im0_night_alike : Nat → Int32} {x_im0_tries_kept : Nat → Int32} {x_im0_tries_ended : Nat → Int32} {x_im0_tries_number : Int32} {x_im1_night_start : Nat → Int32} {x_im1_night_mass : Nat → Int32} {x_im1_night_row : Nat → Int64} {x_im1_night_alike : Nat → Int32} {x_im1_tries_kept : Nat → Int32} {x_im1_tries_ended : Nat → Int32} {x_im1_tries_number : Int32} {x_taken : Nat → Int32} {x_signs_number : Int32} {x_signs_codes : Nat → Int32} {m_start : Nat → Int32} {m_mass : Nat → Int32} {m_rows : Nat → Int32} {m_told : Nat → Int32} {m_kept : Nat → Int32} {m_ended : Nat → Int32} {m_many : Int32} {m_image : Nat → Int32} {m_isKept : Nat → Int32} {m_signs : Int32} {m_sign : Nat → Int32} (hR : Rl x_now_night_start x_now_night_mass x_now_night_row x_now_night_alike x_now_tries_kept x_now_tries_ended x_now_tries_number x_im0_night_start x_im0_night_mass x_im0_night_row x_im0_night_alike x_im0_tries_kept x_im0_tries_ended x_im0_tries_number x_im1_night_start x_im1_night_mass x_im1_night_row x_im1_night_alike x_im1_tries_kept x_im1_tries_ended x_im1_tries_number x_taken x_signs_number x_signs_codes m_start m_mass m_rows m_told m_kept m_ended m_many m_image m_isKept m_signs m_sign) (p0 : Int32) (p1 : Int64) : (X6_row x_now_night_row p0 p1) = (X7_row m_rows p0 p1) := by
  obtain ⟨hN, -⟩ := hR
  unfold X6_row X7_row
  rw [ip_e, two_e]
  by_cases a : X6_within p0 0 1 = 0
  · rw [if_pos a, if_pos a]
  · rw [if_neg a, if_neg a]
    have k := fy_lt (fx_w1 a)
    obtain ⟨r0, r1, d⟩ := hN.2.2.2 _ k
    rw [row_v (x := x_now_night_row p0.toNatClampNeg) (by omega) r1 d]
theorem rel_row {x_now_night_start : Nat → Int32} {x_now_night_mass : Nat → Int32} {x_now_night_row : Nat → Int64} {x_now_night_alike : Nat → Int32} {x_now_tries_kept : Nat → Int32} {x_now_tries_ended : Nat → Int32} {x_now_tries_number : Int32} {x_im0_night_start : Nat → Int32} {x_im0_night_mass : Nat → Int32} {x_im0_night_row : Nat → Int64} {x_im0_night_alike : Nat → Int32} {x_im0_tries_kept : Nat → Int32} {x_im0_tries_ended : Nat → Int32} {x_im0_tries_number : Int32} {x_im1_night_start : Nat → Int32} {x_im1_night_mass : Nat → Int32} {x_im1_night_row : Nat → Int64} {x_im1_night_alike : Nat → Int32} {x_im1_tries_kept : Nat → Int32} {x_im1_tries_ended : Nat → Int32} {x_im1_tries_number : Int32} {x_taken : Nat → Int32} {x_signs_number : Int32} {x_signs_codes : Nat → Int32} {m_start : Nat → Int32} {m_mass : Nat → Int32} {m_rows : Nat → Int32} {m_told : Nat → Int32} {m_kept : Nat → Int32} {m_ended : Nat → Int32} {m_many : Int32} {m_image : Nat → Int32} {m_isKept : Nat → Int32} {m_signs : Int32} {m_sign : Nat → Int32} (hR : Rl x_now_night_start x_now_night_mass x_now_night_row x_now_night_alike x_now_tries_kept x_now_tries_ended x_now_tries_number x_im0_night_start x_im0_night_mass x_im0_night_row x_im0_night_alike x_im0_tries_kept x_im0_tries_ended x_im0_tries_number x_im1_night_start x_im1_night_mass x_im1_night_row x_im1_night_alike x_im1_tries_kept x_im1_tries_ended x_im1_tries_number x_taken x_signs_number x_signs_codes m_start m_mass m_rows m_told m_kept m_ended m_many m_image m_isKept m_signs m_sign) (p0 : Int32) (p1 : Int64) : Rl x_now_night_start x_now_night_mass (X6_row_o_now_night_row x_now_night_row p0 p1) x_now_night_alike x_now_tries_kept x_now_tries_ended x_now_tries_number x_im0_night_start x_im0_night_mass x_im0_night_row x_im0_night_alike x_im0_tries_kept x_im0_tries_ended x_im0_tries_number x_im1_night_start x_im1_night_mass x_im1_night_row x_im1_night_alike x_im1_tries_kept x_im1_tries_ended x_im1_tries_number x_taken x_signs_number x_signs_codes m_start m_mass (X7_row_o_rows m_rows p0 p1) m_told m_kept m_ended m_many m_image m_isKept m_signs m_sign := by
  obtain ⟨hN, hq⟩ := hR
  refine ⟨?_, hq⟩
  unfold X6_row_o_now_night_row X7_row_o_rows
  rw [ip_e, two_e]
  have z1 : (1 : Int64).toInt = 1 := rfl
  have z2 : (9999999999 : Int64).toInt = 9999999999 := rfl
  by_cases a : X6_within p0 0 1 = 0
  · rw [if_pos a, if_pos a]; exact hN
  · rw [if_neg a, if_neg a]
    by_cases b : p1 < 1
    · rw [if_pos b, if_pos b]; exact hN
    · rw [if_neg b, if_neg b]
      by_cases c : p1 ≤ 9999999999
      · rw [if_pos c, if_pos c]
        rw [lt64, z1] at b
        rw [le64, z2] at c
        exact rn_ur hN (by omega) c
      · rw [if_neg c, if_neg c]; exact hN
theorem eq_set {x_now_night_start : Nat → Int32} {x_now_night_mass : Nat → Int32} {x_now_night_row : Nat → Int64} {x_now_night_alike : Nat → Int32} {x_now_tries_kept : Nat → Int32} {x_now_tries_ended : Nat → Int32} {x_now_tries_number : Int32} {x_im0_night_start : Nat → Int32} {x_im0_night_mass : Nat → Int32} {x_im0_night_row : Nat → Int64} {x_im0_night_alike : Nat → Int32} {x_im0_tries_kept : Nat → Int32} {x_im0_tries_ended : Nat → Int32} {x_im0_tries_number : Int32} {x_im1_night_start : Nat → Int32} {x_im1_night_mass : Nat → Int32} {x_im1_night_row : Nat → Int64} {x_im1_night_alike : Nat → Int32} {x_im1_tries_kept : Nat → Int32} {x_im1_tries_ended : Nat → Int32} {x_im1_tries_number : Int32} {x_taken : Nat → Int32} {x_signs_number : Int32} {x_signs_codes : Nat → Int32} {m_start : Nat → Int32} {m_mass : Nat → Int32} {m_rows : Nat → Int32} {m_told : Nat → Int32} {m_kept : Nat → Int32} {m_ended : Nat → Int32} {m_many : Int32} {m_image : Nat → Int32} {m_isKept : Nat → Int32} {m_signs : Int32} {m_sign : Nat → Int32} (hR : Rl x_now_night_start x_now_night_mass x_now_night_row x_now_night_alike x_now_tries_kept x_now_tries_ended x_now_tries_number x_im0_night_start x_im0_night_mass x_im0_night_row x_im0_night_alike x_im0_tries_kept x_im0_tries_ended x_im0_tries_number x_im1_night_start x_im1_night_mass x_im1_night_row x_im1_night_alike x_im1_tries_kept x_im1_tries_ended x_im1_tries_number x_taken x_signs_number x_signs_codes m_start m_mass m_rows m_told m_kept m_ended m_many m_image m_isKept m_signs m_sign) (p0 : Int32) (p1 : Int32) : (X6_set x_now_night_alike p0 p1) = (X7_set m_told p0 p1) := by
  obtain ⟨hN, -⟩ := hR
  unfold X6_set X7_set
  rw [in_e, in_e]
  by_cases a : X6_within p0 0 10 = 0
  · rw [if_pos a, if_pos a]
  · rw [if_neg a, if_neg a]
    obtain ⟨e1, e2, k⟩ := set_b a
    rw [e1, e2]
    by_cases b : X6_within p1 (fy_least p0.toNatClampNeg) (fy_most p0.toNatClampNeg) = 0
    · rw [if_pos b, if_pos b]
    · rw [if_neg b, if_neg b]
      exact (hN.2.2.1 _ k).1
theorem rel_set {x_now_night_start : Nat → Int32} {x_now_night_mass : Nat → Int32} {x_now_night_row : Nat → Int64} {x_now_night_alike : Nat → Int32} {x_now_tries_kept : Nat → Int32} {x_now_tries_ended : Nat → Int32} {x_now_tries_number : Int32} {x_im0_night_start : Nat → Int32} {x_im0_night_mass : Nat → Int32} {x_im0_night_row : Nat → Int64} {x_im0_night_alike : Nat → Int32} {x_im0_tries_kept : Nat → Int32} {x_im0_tries_ended : Nat → Int32} {x_im0_tries_number : Int32} {x_im1_night_start : Nat → Int32} {x_im1_night_mass : Nat → Int32} {x_im1_night_row : Nat → Int64} {x_im1_night_alike : Nat → Int32} {x_im1_tries_kept : Nat → Int32} {x_im1_tries_ended : Nat → Int32} {x_im1_tries_number : Int32} {x_taken : Nat → Int32} {x_signs_number : Int32} {x_signs_codes : Nat → Int32} {m_start : Nat → Int32} {m_mass : Nat → Int32} {m_rows : Nat → Int32} {m_told : Nat → Int32} {m_kept : Nat → Int32} {m_ended : Nat → Int32} {m_many : Int32} {m_image : Nat → Int32} {m_isKept : Nat → Int32} {m_signs : Int32} {m_sign : Nat → Int32} (hR : Rl x_now_night_start x_now_night_mass x_now_night_row x_now_night_alike x_now_tries_kept x_now_tries_ended x_now_tries_number x_im0_night_start x_im0_night_mass x_im0_night_row x_im0_night_alike x_im0_tries_kept x_im0_tries_ended x_im0_tries_number x_im1_night_start x_im1_night_mass x_im1_night_row x_im1_night_alike x_im1_tries_kept x_im1_tries_ended x_im1_tries_number x_taken x_signs_number x_signs_codes m_start m_mass m_rows m_told m_kept m_ended m_many m_image m_isKept m_signs m_sign) (p0 : Int32) (p1 : Int32) : Rl x_now_night_start x_now_night_mass x_now_night_row (X6_set_o_now_night_alike x_now_night_alike p0 p1) x_now_tries_kept x_now_tries_ended x_now_tries_number x_im0_night_start x_im0_night_mass x_im0_night_row x_im0_night_alike x_im0_tries_kept x_im0_tries_ended x_im0_tries_number x_im1_night_start x_im1_night_mass x_im1_night_row x_im1_night_alike x_im1_tries_kept x_im1_tries_ended x_im1_tries_number x_taken x_signs_number x_signs_codes m_start m_mass m_rows (X7_set_o_told m_told p0 p1) m_kept m_ended m_many m_image m_isKept m_signs m_sign := by
  obtain ⟨hN, hq⟩ := hR
  refine ⟨?_, hq⟩
  unfold X6_set_o_now_night_alike X7_set_o_told
  rw [in_e, in_e]
  by_cases a : X6_within p0 0 10 = 0
  · rw [if_pos a, if_pos a]; exact hN
  · rw [if_neg a, if_neg a]
    obtain ⟨e1, e2, k⟩ := set_b a
    rw [e1, e2]
    by_cases b : X6_within p1 (fy_least p0.toNatClampNeg) (fy_most p0.toNatClampNeg) = 0
    · rw [if_pos b, if_pos b]; exact hN
    · rw [if_neg b, if_neg b]
      exact rn_ua hN (w_b b).1 (w_b b).2
theorem eq_time {x_now_night_start : Nat → Int32} {x_now_night_mass : Nat → Int32} {x_now_night_row : Nat → Int64} {x_now_night_alike : Nat → Int32} {x_now_tries_kept : Nat → Int32} {x_now_tries_ended : Nat → Int32} {x_now_tries_number : Int32} {x_im0_night_start : Nat → Int32} {x_im0_night_mass : Nat → Int32} {x_im0_night_row : Nat → Int64} {x_im0_night_alike : Nat → Int32} {x_im0_tries_kept : Nat → Int32} {x_im0_tries_ended : Nat → Int32} {x_im0_tries_number : Int32} {x_im1_night_start : Nat → Int32} {x_im1_night_mass : Nat → Int32} {x_im1_night_row : Nat → Int64} {x_im1_night_alike : Nat → Int32} {x_im1_tries_kept : Nat → Int32} {x_im1_tries_ended : Nat → Int32} {x_im1_tries_number : Int32} {x_taken : Nat → Int32} {x_signs_number : Int32} {x_signs_codes : Nat → Int32} {m_start : Nat → Int32} {m_mass : Nat → Int32} {m_rows : Nat → Int32} {m_told : Nat → Int32} {m_kept : Nat → Int32} {m_ended : Nat → Int32} {m_many : Int32} {m_image : Nat → Int32} {m_isKept : Nat → Int32} {m_signs : Int32} {m_sign : Nat → Int32} (hR : Rl x_now_night_start x_now_night_mass x_now_night_row x_now_night_alike x_now_tries_kept x_now_tries_ended x_now_tries_number x_im0_night_start x_im0_night_mass x_im0_night_row x_im0_night_alike x_im0_tries_kept x_im0_tries_ended x_im0_tries_number x_im1_night_start x_im1_night_mass x_im1_night_row x_im1_night_alike x_im1_tries_kept x_im1_tries_ended x_im1_tries_number x_taken x_signs_number x_signs_codes m_start m_mass m_rows m_told m_kept m_ended m_many m_image m_isKept m_signs m_sign) (x_run_cells : Nat → Int32) (x_run_losses : Nat → Int32) (x_run_rates : Nat → Int32) (m_cell : Nat → Int64) (m_loss : Nat → Int64) (m_read : Nat → Int32) (p0 : Int32) (p1 : Int32) (p2 : Int32) : (X6_time x_now_night_start x_now_night_mass x_now_night_alike x_run_cells x_run_losses x_run_rates p0 p1 p2) = (X7_time m_start m_mass m_told m_cell m_loss m_read p0 p1 p2) := by
  obtain ⟨hN, -⟩ := hR
  have A := rn_ca hN
  unfold X6_time X7_time
  show (if X6_within p0 0 1 = 0 then _ else if X6_within p1 0 9 = 0 then _ else if X6_within p2 0 2 = 0 then _ else _) = (if X6_within p0 0 1 = 0 then _ else if X6_within p1 0 9 = 0 then _ else if X6_within p2 0 2 = 0 then _ else _)
  by_cases a : X6_within p0 0 1 = 0
  · rw [if_pos a, if_pos a]
  · rw [if_neg a, if_neg a]
    by_cases b : X6_within p1 0 9 = 0
    · rw [if_pos b, if_pos b]
    · rw [if_neg b, if_neg b]
      by_cases c : X6_within p2 0 2 = 0
      · rw [if_pos c, if_pos c]
      · rw [if_neg c, if_neg c]
        unfold X7_timeAs X6_causesAtWork
        rw [← A.2]
        exact tm_e hN (fx_w1 a) (w_b b) A.1 p2 _ _ _ _ _ _
theorem eq_at {x_now_night_start : Nat → Int32} {x_now_night_mass : Nat → Int32} {x_now_night_row : Nat → Int64} {x_now_night_alike : Nat → Int32} {x_now_tries_kept : Nat → Int32} {x_now_tries_ended : Nat → Int32} {x_now_tries_number : Int32} {x_im0_night_start : Nat → Int32} {x_im0_night_mass : Nat → Int32} {x_im0_night_row : Nat → Int64} {x_im0_night_alike : Nat → Int32} {x_im0_tries_kept : Nat → Int32} {x_im0_tries_ended : Nat → Int32} {x_im0_tries_number : Int32} {x_im1_night_start : Nat → Int32} {x_im1_night_mass : Nat → Int32} {x_im1_night_row : Nat → Int64} {x_im1_night_alike : Nat → Int32} {x_im1_tries_kept : Nat → Int32} {x_im1_tries_ended : Nat → Int32} {x_im1_tries_number : Int32} {x_taken : Nat → Int32} {x_signs_number : Int32} {x_signs_codes : Nat → Int32} {m_start : Nat → Int32} {m_mass : Nat → Int32} {m_rows : Nat → Int32} {m_told : Nat → Int32} {m_kept : Nat → Int32} {m_ended : Nat → Int32} {m_many : Int32} {m_image : Nat → Int32} {m_isKept : Nat → Int32} {m_signs : Int32} {m_sign : Nat → Int32} (hR : Rl x_now_night_start x_now_night_mass x_now_night_row x_now_night_alike x_now_tries_kept x_now_tries_ended x_now_tries_number x_im0_night_start x_im0_night_mass x_im0_night_row x_im0_night_alike x_im0_tries_kept x_im0_tries_ended x_im0_tries_number x_im1_night_start x_im1_night_mass x_im1_night_row x_im1_night_alike x_im1_tries_kept x_im1_tries_ended x_im1_tries_number x_taken x_signs_number x_signs_codes m_start m_mass m_rows m_told m_kept m_ended m_many m_image m_isKept m_signs m_sign) (x_run_cells : Nat → Int32) (x_run_losses : Nat → Int32) (x_run_rates : Nat → Int32) (m_cell : Nat → Int64) (m_loss : Nat → Int64) (m_read : Nat → Int32) (p0 : Int32) (p1 : Int32) (p2 : Int32) (p3 : Int32) : (X6_at x_now_night_start x_now_night_mass x_now_night_alike x_run_cells x_run_losses x_run_rates p0 p1 p2 p3) = (X7_at m_start m_mass m_told m_cell m_loss m_read p0 p1 p2 p3) := by
  obtain ⟨hN, -⟩ := hR
  have A := rn_ca hN
  unfold X6_at X7_at
  show (if X6_within p0 0 1 = 0 then _ else if X6_within p1 0 9 = 0 then _ else if X6_within p2 0 600 = 0 then _ else if X6_within p3 0 6 = 0 then _ else _) = (if X6_within p0 0 1 = 0 then _ else if X6_within p1 0 9 = 0 then _ else if X6_within p2 0 600 = 0 then _ else if X6_within p3 0 6 = 0 then _ else _)
  by_cases a : X6_within p0 0 1 = 0
  · rw [if_pos a, if_pos a]
  · rw [if_neg a, if_neg a]
    by_cases b : X6_within p1 0 9 = 0
    · rw [if_pos b, if_pos b]
    · rw [if_neg b, if_neg b]
      by_cases c : X6_within p2 0 600 = 0
      · rw [if_pos c, if_pos c]
      · rw [if_neg c, if_neg c]
        by_cases d : X6_within p3 0 6 = 0
        · rw [if_pos d, if_pos d]
        · rw [if_neg d, if_neg d]
          have hst := hN.1 p0.toNatClampNeg (fy_lt (fx_w1 a))
          obtain ⟨g1, g2⟩ := gl_e hN
          obtain ⟨P, S0⟩ := init_e hN (fx_w1 a) (w_b b) A.1 (deg := x_now_night_start p0.toNatClampNeg) ⟨hst.2.1, hst.2.2⟩ g2 x_run_cells x_run_rates m_cell m_read
          have hr := w_b c
          have hr0 : 0 ≤ p2.toInt := hr.1
          have hr1 : p2.toInt ≤ 600 := hr.2
          have h7 : p2.toInt - ((0 : Nat) : Int) < ((p2.toNatClampNeg + 1 : Nat) : Int) := by
            unfold Int32.toNatClampNeg
            omega
          have S := go_e P g2 hr1 (p2.toNatClampNeg + 1) 0 _ _ _ _ _ _ _ _ x_run_losses _ _ _ _ _ _ _ m_loss _ S0 (by decide) h7
          rw [← g1] at S
          obtain ⟨sc, ⟨sl, sl0, sl1⟩, ⟨sr, sr0, sr1⟩, ⟨sf, sf0, sf1⟩, ⟨-, -, sq⟩, -⟩ := S
          have hw := w_b d
          have hw0 : 0 ≤ p3.toInt := hw.1
          have hw1 : p3.toInt ≤ 6 := hw.2
          have z0 : (0 : Int32).toInt = 0 := rfl
          have z3 : (3 : Int32).toInt = 3 := rfl
          have z4 : (4 : Int32).toInt = 4 := rfl
          unfold X6_at_c88_r X3_shows X7_at_m108_s0
          rw [← hst.1, ← A.2]
          by_cases e : X6_within p3 0 3 = 0
          · have q := w_0 e
            rw [if_pos e, if_pos (by rw [le32, z4]; omega : (4 : Int32) ≤ p3)]
            by_cases e4 : p3 = 4
            · rw [if_pos e4, if_pos e4, eq32]
              refine Eq.trans sl (to32 ?_ ?_).symm
              · exact sl ▸ (by omega)
              · exact sl ▸ (by omega)
            · rw [if_neg e4, if_neg e4]
              by_cases e5 : p3 = 5
              · rw [if_pos e5, if_pos e5, eq32]
                refine Eq.trans sr (to32 ?_ ?_).symm
                · exact sr ▸ (by omega)
                · exact sr ▸ (by omega)
              · rw [if_neg e5, if_neg e5, eq32]
                refine Eq.trans sf (to32 ?_ ?_).symm
                · exact sf ▸ (by omega)
                · exact sf ▸ (by omega)
          · have q := w_b e
            have q1 : p3.toInt ≤ 3 := q.2
            rw [if_neg e, if_neg (by rw [le32, z4]; omega : ¬ (4 : Int32) ≤ p3), eq32]
            have t := tn_e hw0
            obtain ⟨k1, k2, k3⟩ := sc p3.toNatClampNeg (by omega)
            have T0 := hN.2.2.1 0 (by decide)
            have v0 : (fy_most 0).toInt = 40 := by decide
            rw [T0.1] at T0
            refine Eq.trans k1 (to32 ?_ ?_).symm
            · exact k1 ▸ (by omega)
            · exact k1 ▸ (by omega)
theorem eq_glass {x_now_night_start : Nat → Int32} {x_now_night_mass : Nat → Int32} {x_now_night_row : Nat → Int64} {x_now_night_alike : Nat → Int32} {x_now_tries_kept : Nat → Int32} {x_now_tries_ended : Nat → Int32} {x_now_tries_number : Int32} {x_im0_night_start : Nat → Int32} {x_im0_night_mass : Nat → Int32} {x_im0_night_row : Nat → Int64} {x_im0_night_alike : Nat → Int32} {x_im0_tries_kept : Nat → Int32} {x_im0_tries_ended : Nat → Int32} {x_im0_tries_number : Int32} {x_im1_night_start : Nat → Int32} {x_im1_night_mass : Nat → Int32} {x_im1_night_row : Nat → Int64} {x_im1_night_alike : Nat → Int32} {x_im1_tries_kept : Nat → Int32} {x_im1_tries_ended : Nat → Int32} {x_im1_tries_number : Int32} {x_taken : Nat → Int32} {x_signs_number : Int32} {x_signs_codes : Nat → Int32} {m_start : Nat → Int32} {m_mass : Nat → Int32} {m_rows : Nat → Int32} {m_told : Nat → Int32} {m_kept : Nat → Int32} {m_ended : Nat → Int32} {m_many : Int32} {m_image : Nat → Int32} {m_isKept : Nat → Int32} {m_signs : Int32} {m_sign : Nat → Int32} (hR : Rl x_now_night_start x_now_night_mass x_now_night_row x_now_night_alike x_now_tries_kept x_now_tries_ended x_now_tries_number x_im0_night_start x_im0_night_mass x_im0_night_row x_im0_night_alike x_im0_tries_kept x_im0_tries_ended x_im0_tries_number x_im1_night_start x_im1_night_mass x_im1_night_row x_im1_night_alike x_im1_tries_kept x_im1_tries_ended x_im1_tries_number x_taken x_signs_number x_signs_codes m_start m_mass m_rows m_told m_kept m_ended m_many m_image m_isKept m_signs m_sign) (x_run_cells : Nat → Int32) (x_run_losses : Nat → Int32) (x_run_rates : Nat → Int32) (m_cell : Nat → Int64) (m_loss : Nat → Int64) (m_read : Nat → Int32) (p0 : Int32) (p1 : Int32) (p2 : Int32) : (X6_glass x_now_night_start x_now_night_mass x_now_night_alike x_run_cells x_run_losses x_run_rates p0 p1 p2) = (X7_glass m_start m_mass m_told m_cell m_loss m_read p0 p1 p2) := by
  obtain ⟨hN, -⟩ := hR
  have A := rn_ca hN
  unfold X6_glass X7_glass
  show (if X6_within p0 0 1 = 0 then _ else if X6_within p2 0 3 = 0 then _ else if X6_within p1 0 9 = 0 then _ else _) = (if X6_within p0 0 1 = 0 then _ else if X6_within p2 0 3 = 0 then _ else if X6_within p1 0 9 = 0 then _ else _)
  by_cases a : X6_within p0 0 1 = 0
  · rw [if_pos a, if_pos a]
  · rw [if_neg a, if_neg a]
    by_cases b : X6_within p2 0 3 = 0
    · rw [if_pos b, if_pos b]
    · rw [if_neg b, if_neg b]
      by_cases c : X6_within p1 0 9 = 0
      · rw [if_pos c, if_pos c]
      · rw [if_neg c, if_neg c]
        have hst := hN.1 p0.toNatClampNeg (fy_lt (fx_w1 a))
        have hg : vp_in p2 4 := fx_nn (N := 3) (n := 3) rfl (fx_wi b).1 (fx_wi b).2
        unfold X6_glass_c76_r X3_putGlass_o_glassCell X3_putGlass_m15_s1 X6_causesAtWork
        rw [if_neg b, run_e hN (fx_w1 a) (w_b c) A.1 (deg := x_now_night_start p0.toNatClampNeg) ⟨hst.2.1, hst.2.2⟩ hg 1 (R := 600) (by decide) x_run_cells x_run_losses x_run_rates m_cell m_loss m_read, ← hst.1, ← A.2]
        have V := run_v hN (pp := p0) (b := p1) (ca := x_now_night_alike 10) (deg := x_now_night_start p0.toNatClampNeg) (k := p2.toNatClampNeg) (fy_lt hg) 1 m_cell m_loss m_read
        have e : ∀ bg rd la : Int32, mv 1 bg rd la = rd := fun _ _ _ => rfl
        rw [e] at V ⊢
        rcases V with h9 | h9
        · rw [h9, ite_self]
        · rw [if_pos (show _ ≤ (600 : Int32).toInt from h9.2)]
theorem eq_first {x_now_night_start : Nat → Int32} {x_now_night_mass : Nat → Int32} {x_now_night_row : Nat → Int64} {x_now_night_alike : Nat → Int32} {x_now_tries_kept : Nat → Int32} {x_now_tries_ended : Nat → Int32} {x_now_tries_number : Int32} {x_im0_night_start : Nat → Int32} {x_im0_night_mass : Nat → Int32} {x_im0_night_row : Nat → Int64} {x_im0_night_alike : Nat → Int32} {x_im0_tries_kept : Nat → Int32} {x_im0_tries_ended : Nat → Int32} {x_im0_tries_number : Int32} {x_im1_night_start : Nat → Int32} {x_im1_night_mass : Nat → Int32} {x_im1_night_row : Nat → Int64} {x_im1_night_alike : Nat → Int32} {x_im1_tries_kept : Nat → Int32} {x_im1_tries_ended : Nat → Int32} {x_im1_tries_number : Int32} {x_taken : Nat → Int32} {x_signs_number : Int32} {x_signs_codes : Nat → Int32} {m_start : Nat → Int32} {m_mass : Nat → Int32} {m_rows : Nat → Int32} {m_told : Nat → Int32} {m_kept : Nat → Int32} {m_ended : Nat → Int32} {m_many : Int32} {m_image : Nat → Int32} {m_isKept : Nat → Int32} {m_signs : Int32} {m_sign : Nat → Int32} (hR : Rl x_now_night_start x_now_night_mass x_now_night_row x_now_night_alike x_now_tries_kept x_now_tries_ended x_now_tries_number x_im0_night_start x_im0_night_mass x_im0_night_row x_im0_night_alike x_im0_tries_kept x_im0_tries_ended x_im0_tries_number x_im1_night_start x_im1_night_mass x_im1_night_row x_im1_night_alike x_im1_tries_kept x_im1_tries_ended x_im1_tries_number x_taken x_signs_number x_signs_codes m_start m_mass m_rows m_told m_kept m_ended m_many m_image m_isKept m_signs m_sign) (x_run_cells : Nat → Int32) (x_run_losses : Nat → Int32) (x_run_rates : Nat → Int32) (m_cell : Nat → Int64) (m_loss : Nat → Int64) (m_read : Nat → Int32) (p0 : Int32) (p1 : Int32) (p2 : Int32) : (X6_first x_now_night_start x_now_night_mass x_now_night_alike x_run_cells x_run_losses x_run_rates p0 p1 p2) = (X7_first m_start m_mass m_told m_cell m_loss m_read p0 p1 p2) := by
  obtain ⟨hN, -⟩ := hR
  have A := rn_ca hN
  unfold X6_first X7_first
  show (if X6_within p0 0 2 = 0 then _ else if X6_within p1 0 9 = 0 then _ else if X6_within p2 0 9 = 0 then _ else _) = (if X6_within p0 0 2 = 0 then _ else if X6_within p1 0 9 = 0 then _ else if X6_within p2 0 9 = 0 then _ else _)
  by_cases a : X6_within p0 0 2 = 0
  · rw [if_pos a, if_pos a]
  · rw [if_neg a, if_neg a]
    by_cases b : X6_within p1 0 9 = 0
    · rw [if_pos b, if_pos b]
    · rw [if_neg b, if_neg b]
      by_cases c : X6_within p2 0 9 = 0
      · rw [if_pos c, if_pos c]
      · rw [if_neg c, if_neg c]
        unfold X6_first_c54_r X7_first_c42_r X6_first_c45_r X7_first_c39_r X7_timeAs X6_causesAtWork
        rw [← A.2, tm_e hN fx_v0 (w_b b) A.1 p0 _ _ _ m_cell m_loss m_read, tm_e hN fx_v1 (w_b c) A.1 p0 _ _ _ _ _ _]
        rfl
section
variable {st ma : Nat → Int32} {ro : Nat → Int64} {al st' ma' ro' to : Nat → Int32}
theorem od_h (hN : RN st ma ro al st' ma' ro' to) (mg : Int32) (q1 q2 q3 q4 q5 q6 q7 q8 q9 q10 q11 q12 q13 q14 q15 : Int32) (rc rl rr ho ht co ct : Nat → Int32) (y1 y2 y3 : Int64) (y4 y5 y6 : Int32) (y7 y8 : Nat → Int64) (y9 y10 : Nat → Int32) {k : Nat} (hk : k < 10) : (0 < (ro' k).toInt → X6_odds_c32_hotNeedles_times st ma ro al q1 q2 q3 q4 q5 q6 q7 q8 q9 q10 q11 q12 q13 q14 q15 rc rl rr ho ht mg k = TT st' ma' to mg 0 (nI k)) ∧ (0 < (ro' (10 + k)).toInt → X6_odds_c42_coldNeedles_times st ma ro al q1 q2 q3 q4 q5 q6 q7 q8 q9 q10 q11 q12 q13 q14 q15 rc rl rr ho ht co ct mg k = TT st' ma' to mg 1 (nI k)) := by
  constructor
  · intro h
    exact nd_t hN (p := 0) fx_v0 mg q1 q2 q3 q4 q5 q6 q7 q8 q9 q10 q11 q12 q13 q14 q15 rc rl rr ho ht 10 (by decide) k hk (by rw [show 10 * (0 : Int32).toNatClampNeg + k = k from Nat.zero_add k]; exact h)
  · intro h
    exact nd_t hN (p := 1) fx_v1 mg _ _ _ _ _ _ _ _ _ _ _ _ _ _ _ _ _ _ co ct 10 (by decide) k hk h
theorem od_c (hN : RN st ma ro al st' ma' ro' to) (mg fi : Int32) (q1 q2 q3 q4 q5 q6 q7 q8 q9 q10 q11 q12 q13 q14 q15 : Int32) (rc rl rr ho ht co ct : Nat → Int32) (y1 y2 y3 : Int64) (y4 y5 y6 : Int32) (y7 y8 : Nat → Int64) (y9 y10 : Nat → Int32) {j k : Nat} (hj : j < 10) (hk : k < 10) (x : Int64) :
    (if (X6_odds_c88_r st ma ro al q1 q2 q3 q4 q5 q6 q7 q8 q9 q10 q11 q12 q13 q14 q15 rc rl rr ho ht co ct mg j k) = fi then x + (((X6_readNeedles_o_needles_often ro ho (0 : Int32)) j).toInt64 * ((X6_readNeedles_o_needles_often ro co (1 : Int32)) k).toInt64) else x) = x + X7_odds_m102_s1 y1 y2 y3 y4 y5 y6 st' ma' to y7 y8 y9 y10 ro' mg fi j k ∧ (0 ≤ (X7_odds_m102_s1 y1 y2 y3 y4 y5 y6 st' ma' to y7 y8 y9 y10 ro' mg fi j k).toInt ∧ (X7_odds_m102_s1 y1 y2 y3 y4 y5 y6 st' ma' to y7 y8 y9 y10 ro' mg fi j k).toInt ≤ 81) := by
  have o0 : X6_readNeedles_o_needles_often ro ho (0 : Int32) j = ro' j := by
    refine Eq.trans (of_e hN (p := 0) (by decide) ho hj) ?_
    rw [show 10 * (0 : Int32).toNatClampNeg + j = j from Nat.zero_add j]
  have o1 : X6_readNeedles_o_needles_often ro co (1 : Int32) k = ro' (10 + k) := of_e hN (p := 1) (by decide) co hk
  have b0 := rn_d hN j (by omega)
  have b1 := rn_d hN (10 + k) (by omega)
  obtain ⟨t0, t1⟩ := od_h hN mg q1 q2 q3 q4 q5 q6 q7 q8 q9 q10 q11 q12 q13 q14 q15 rc rl rr ho ht co ct y1 y2 y3 y4 y5 y6 y7 y8 y9 y10 hj
  obtain ⟨s0, s1⟩ := od_h hN mg q1 q2 q3 q4 q5 q6 q7 q8 q9 q10 q11 q12 q13 q14 q15 rc rl rr ho ht co ct y1 y2 y3 y4 y5 y6 y7 y8 y9 y10 hk
  obtain ⟨l0, -⟩ := ly_t hN mg y1 y2 y3 y4 y5 y6 y7 y8 y9 y10 hj
  obtain ⟨-, l1⟩ := ly_t hN mg y1 y2 y3 y4 y5 y6 y7 y8 y9 y10 hk
  have M := z_mul (w := (ro' j).toInt) (r := (ro' (10 + k)).toInt) (W := 9) (R := 9) b0.1 b0.2 b1.1 b1.2
  have m32 : (ro' j * ro' (10 + k)).toInt = (ro' j).toInt * (ro' (10 + k)).toInt := a_mul (by omega) (by omega)
  have m64 : ((ro' j).toInt64 * (ro' (10 + k)).toInt64) = (ro' j * ro' (10 + k)).toInt64 := by
    rw [eq64, b_mul (by rw [b_of, b_of]; omega) (by rw [b_of, b_of]; omega), b_of, b_of, b_of, m32]
  rw [o0, o1, m64]
  unfold X7_odds_m102_s1
  have z : (0 : Int64).toInt = 0 := rfl
  refine ⟨?_, ?_⟩
  · by_cases c : 0 < (ro' j).toInt ∧ 0 < (ro' (10 + k)).toInt
    · have e : X6_odds_c88_r st ma ro al q1 q2 q3 q4 q5 q6 q7 q8 q9 q10 q11 q12 q13 q14 q15 rc rl rr ho ht co ct mg j k = X7_odds_c72_r y1 y2 y3 y4 y5 y6 st' ma' to y7 y8 y9 y10 mg j k := by
        unfold X6_odds_c88_r X7_odds_c72_r
        rw [t0 c.1, s1 c.2, l0, l1]
        rfl
      rw [e]
      by_cases d : X7_odds_c72_r y1 y2 y3 y4 y5 y6 st' ma' to y7 y8 y9 y10 mg j k = fi
      · rw [if_pos d, if_pos d]
      · rw [if_neg d, if_neg d, Int64.add_zero]
    · have e : (ro' j * ro' (10 + k)).toInt64 = 0 := by
        rw [eq64, b_of, m32, z]
        rcases (show (ro' j).toInt = 0 ∨ (ro' (10 + k)).toInt = 0 by omega) with q | q
        · rw [q, Int.zero_mul]
        · rw [q, Int.mul_zero]
      rw [e, ite_self, Int64.add_zero, ite_self]
  · by_cases d : X7_odds_c72_r y1 y2 y3 y4 y5 y6 st' ma' to y7 y8 y9 y10 mg j k = fi
    · rw [if_pos d, b_of, m32]; omega
    · rw [if_neg d, z]; omega
theorem od_i (hN : RN st ma ro al st' ma' ro' to) (mg fi : Int32) (q1 q2 q3 q4 q5 q6 q7 q8 q9 q10 q11 q12 q13 q14 q15 : Int32) (rc rl rr ho ht co ct : Nat → Int32) (y1 y2 y3 : Int64) (y4 y5 y6 : Int32) (y7 y8 : Nat → Int64) (y9 y10 : Nat → Int32) {j : Nat} (hj : j < 10) {x : Int64} (hx : 0 ≤ x.toInt ∧ x.toInt ≤ 810 * j) : ∀ n, n ≤ 10 → X6_odds_L61 st ma ro al q1 q2 q3 q4 q5 q6 q7 q8 q9 q10 q11 q12 q13 q14 q15 rc rl rr ho ht co ct mg fi j x n = X7_odds_L46 y1 y2 y3 y4 y5 y6 st' ma' to y7 y8 y9 y10 ro' mg fi j x n ∧ 0 ≤ (X7_odds_L46 y1 y2 y3 y4 y5 y6 st' ma' to y7 y8 y9 y10 ro' mg fi j x n).toInt ∧ (X7_odds_L46 y1 y2 y3 y4 y5 y6 st' ma' to y7 y8 y9 y10 ro' mg fi j x n).toInt ≤ 810 * j + 81 * n
  | 0, _ => ⟨rfl, hx.1, by have := hx.2; show x.toInt ≤ _; omega⟩
  | n + 1, hn => by
    obtain ⟨a, b, c⟩ := od_i hN mg fi q1 q2 q3 q4 q5 q6 q7 q8 q9 q10 q11 q12 q13 q14 q15 rc rl rr ho ht co ct y1 y2 y3 y4 y5 y6 y7 y8 y9 y10 hj hx n (by omega)
    obtain ⟨e, e0, e1⟩ := od_c hN mg fi q1 q2 q3 q4 q5 q6 q7 q8 q9 q10 q11 q12 q13 q14 q15 rc rl rr ho ht co ct y1 y2 y3 y4 y5 y6 y7 y8 y9 y10 hj (k := n) (by omega) (X6_odds_L61 st ma ro al q1 q2 q3 q4 q5 q6 q7 q8 q9 q10 q11 q12 q13 q14 q15 rc rl rr ho ht co ct mg fi j x n)
    have u : X7_odds_L46 y1 y2 y3 y4 y5 y6 st' ma' to y7 y8 y9 y10 ro' mg fi j x (n + 1) = X7_odds_L46 y1 y2 y3 y4 y5 y6 st' ma' to y7 y8 y9 y10 ro' mg fi j x n + X7_odds_m102_s1 y1 y2 y3 y4 y5 y6 st' ma' to y7 y8 y9 y10 ro' mg fi j n := rfl
    have s : (X7_odds_L46 y1 y2 y3 y4 y5 y6 st' ma' to y7 y8 y9 y10 ro' mg fi j x n + X7_odds_m102_s1 y1 y2 y3 y4 y5 y6 st' ma' to y7 y8 y9 y10 ro' mg fi j n).toInt = (X7_odds_L46 y1 y2 y3 y4 y5 y6 st' ma' to y7 y8 y9 y10 ro' mg fi j x n).toInt + (X7_odds_m102_s1 y1 y2 y3 y4 y5 y6 st' ma' to y7 y8 y9 y10 ro' mg fi j n).toInt := b_add (by omega) (by omega)
    rw [u]
    refine ⟨?_, by rw [s]; omega, by rw [s]; omega⟩
    rw [X6_odds_L61]
    refine Eq.trans e ?_
    rw [a]
theorem od_o (hN : RN st ma ro al st' ma' ro' to) (mg fi : Int32) (q1 q2 q3 q4 q5 q6 q7 q8 q9 q10 q11 q12 q13 q14 q15 : Int32) (rc rl rr ho ht co ct : Nat → Int32) (y1 y2 y3 : Int64) (y4 y5 y6 : Int32) (y7 y8 : Nat → Int64) (y9 y10 : Nat → Int32) : ∀ n, n ≤ 10 → X6_odds_L51 st ma ro al q1 q2 q3 q4 q5 q6 q7 q8 q9 q10 q11 q12 q13 q14 q15 rc rl rr ho ht co ct mg fi n = X7_odds_L36 y1 y2 y3 y4 y5 y6 st' ma' to y7 y8 y9 y10 ro' mg fi n ∧ 0 ≤ (X7_odds_L36 y1 y2 y3 y4 y5 y6 st' ma' to y7 y8 y9 y10 ro' mg fi n).toInt ∧ (X7_odds_L36 y1 y2 y3 y4 y5 y6 st' ma' to y7 y8 y9 y10 ro' mg fi n).toInt ≤ 810 * n
  | 0, _ => ⟨rfl, (by decide : (0 : Int) ≤ (0 : Int64).toInt), (by decide : (0 : Int64).toInt ≤ 810 * ((0 : Nat) : Int))⟩
  | n + 1, hn => by
    obtain ⟨a, b, c⟩ := od_o hN mg fi q1 q2 q3 q4 q5 q6 q7 q8 q9 q10 q11 q12 q13 q14 q15 rc rl rr ho ht co ct y1 y2 y3 y4 y5 y6 y7 y8 y9 y10 n (by omega)
    obtain ⟨e, e0, e1⟩ := od_i hN mg fi q1 q2 q3 q4 q5 q6 q7 q8 q9 q10 q11 q12 q13 q14 q15 rc rl rr ho ht co ct y1 y2 y3 y4 y5 y6 y7 y8 y9 y10 (j := n) (by omega) ⟨b, c⟩ 10 (by decide)
    have u : X7_odds_L36 y1 y2 y3 y4 y5 y6 st' ma' to y7 y8 y9 y10 ro' mg fi (n + 1) = X7_odds_L46 y1 y2 y3 y4 y5 y6 st' ma' to y7 y8 y9 y10 ro' mg fi n (X7_odds_L36 y1 y2 y3 y4 y5 y6 st' ma' to y7 y8 y9 y10 ro' mg fi n) 10 := rfl
    rw [u, X6_odds_L51, a]
    exact ⟨e, e0, by omega⟩
end
theorem eq_odds {x_now_night_start : Nat → Int32} {x_now_night_mass : Nat → Int32} {x_now_night_row : Nat → Int64} {x_now_night_alike : Nat → Int32} {x_now_tries_kept : Nat → Int32} {x_now_tries_ended : Nat → Int32} {x_now_tries_number : Int32} {x_im0_night_start : Nat → Int32} {x_im0_night_mass : Nat → Int32} {x_im0_night_row : Nat → Int64} {x_im0_night_alike : Nat → Int32} {x_im0_tries_kept : Nat → Int32} {x_im0_tries_ended : Nat → Int32} {x_im0_tries_number : Int32} {x_im1_night_start : Nat → Int32} {x_im1_night_mass : Nat → Int32} {x_im1_night_row : Nat → Int64} {x_im1_night_alike : Nat → Int32} {x_im1_tries_kept : Nat → Int32} {x_im1_tries_ended : Nat → Int32} {x_im1_tries_number : Int32} {x_taken : Nat → Int32} {x_signs_number : Int32} {x_signs_codes : Nat → Int32} {m_start : Nat → Int32} {m_mass : Nat → Int32} {m_rows : Nat → Int32} {m_told : Nat → Int32} {m_kept : Nat → Int32} {m_ended : Nat → Int32} {m_many : Int32} {m_image : Nat → Int32} {m_isKept : Nat → Int32} {m_signs : Int32} {m_sign : Nat → Int32} (hR : Rl x_now_night_start x_now_night_mass x_now_night_row x_now_night_alike x_now_tries_kept x_now_tries_ended x_now_tries_number x_im0_night_start x_im0_night_mass x_im0_night_row x_im0_night_alike x_im0_tries_kept x_im0_tries_ended x_im0_tries_number x_im1_night_start x_im1_night_mass x_im1_night_row x_im1_night_alike x_im1_tries_kept x_im1_tries_ended x_im1_tries_number x_taken x_signs_number x_signs_codes m_start m_mass m_rows m_told m_kept m_ended m_many m_image m_isKept m_signs m_sign) (x_run_rateOnRime : Int32) (x_run_air : Int32) (x_run_steam : Int32) (x_run_melt : Int32) (x_run_needleAt : Int32) (x_run_enoughFrost : Int32) (x_run_causes : Int32) (x_run_glassCell : Int32) (x_run_left : Int32) (x_run_rime : Int32) (x_run_frost : Int32) (x_run_round : Int32) (x_run_begun : Int32) (x_run_reads : Int32) (x_run_last : Int32) (x_run_cells : Nat → Int32) (x_run_losses : Nat → Int32) (x_run_rates : Nat → Int32) (x_hotNeedles_often : Nat → Int32) (x_hotNeedles_times : Nat → Int32) (x_coldNeedles_often : Nat → Int32) (x_coldNeedles_times : Nat → Int32) (m_left : Int64) (m_rime : Int64) (m_frost : Int64) (m_began : Int32) (m_last : Int32) (m_rounds : Int32) (m_cell : Nat → Int64) (m_loss : Nat → Int64) (m_read : Nat → Int32) (m_times : Nat → Int32) (p0 : Int32) (p1 : Int32) (p2 : Int32) : (X6_odds x_now_night_start x_now_night_mass x_now_night_row x_now_night_alike x_run_rateOnRime x_run_air x_run_steam x_run_melt x_run_needleAt x_run_enoughFrost x_run_causes x_run_glassCell x_run_left x_run_rime x_run_frost x_run_round x_run_begun x_run_reads x_run_last x_run_cells x_run_losses x_run_rates x_hotNeedles_often x_hotNeedles_times x_coldNeedles_often x_coldNeedles_times p0 p1 p2) = (X7_odds m_left m_rime m_frost m_began m_last m_rounds m_start m_mass m_told m_cell m_loss m_read m_times m_rows p0 p1 p2) := by
  obtain ⟨hN, -⟩ := hR
  unfold X6_odds X7_odds
  show (if X6_within p0 0 2 = 0 then _ else if X6_within p1 0 2 = 0 then _ else if X6_within p2 0 1 = 0 then _ else _) = (if X6_within p0 0 2 = 0 then _ else if X6_within p1 0 2 = 0 then _ else if X6_within p2 0 1 = 0 then _ else _)
  by_cases a : X6_within p0 0 2 = 0
  · rw [if_pos a, if_pos a]
  · rw [if_neg a, if_neg a]
    by_cases b : X6_within p1 0 2 = 0
    · rw [if_pos b, if_pos b]
    · rw [if_neg b, if_neg b]
      by_cases c : X6_within p2 0 1 = 0
      · rw [if_pos c, if_pos c]
      · rw [if_neg c, if_neg c]
        obtain ⟨e, e0, e1⟩ := od_o hN p0 p1 x_run_rateOnRime x_run_air x_run_steam x_run_melt x_run_needleAt x_run_enoughFrost x_run_causes x_run_glassCell x_run_left x_run_rime x_run_frost x_run_round x_run_begun x_run_reads x_run_last x_run_cells x_run_losses x_run_rates x_hotNeedles_often x_hotNeedles_times x_coldNeedles_often x_coldNeedles_times m_left m_rime m_frost m_began m_last m_rounds m_cell m_loss m_read m_times 10 (by decide)
        unfold X6_odds_c155_r X7_odds_c133_r
        have g0 : X6_readNeedles_o_needles_together x_now_night_row x_hotNeedles_often (0 : Int32) = X7_sumOf m_rows 0 := tg_e hN (p := 0) (by decide) _
        have g1 : X6_readNeedles_o_needles_together x_now_night_row x_coldNeedles_often (1 : Int32) = X7_sumOf m_rows 1 := tg_e hN (p := 1) (by decide) _
        have s0 := rn_s hN (p := 0) (by decide)
        have s1 := rn_s hN (p := 1) (by decide)
        rw [e, g0, g1]
        refine part_e e0 ?_ (w01 c)
        have M := z_mul (w := (X7_sumOf m_rows 0).toInt) (r := (X7_sumOf m_rows 1).toInt) (W := 90) (R := 90) (by omega) s0.2 (by omega) s1.2
        rw [b_mul (by rw [b_of, b_of]; omega) (by rw [b_of, b_of]; omega), b_of, b_of]
        exact Int.mul_pos s0.1 s1.1
theorem eq_gain {x_now_night_start : Nat → Int32} {x_now_night_mass : Nat → Int32} {x_now_night_row : Nat → Int64} {x_now_night_alike : Nat → Int32} {x_now_tries_kept : Nat → Int32} {x_now_tries_ended : Nat → Int32} {x_now_tries_number : Int32} {x_im0_night_start : Nat → Int32} {x_im0_night_mass : Nat → Int32} {x_im0_night_row : Nat → Int64} {x_im0_night_alike : Nat → Int32} {x_im0_tries_kept : Nat → Int32} {x_im0_tries_ended : Nat → Int32} {x_im0_tries_number : Int32} {x_im1_night_start : Nat → Int32} {x_im1_night_mass : Nat → Int32} {x_im1_night_row : Nat → Int64} {x_im1_night_alike : Nat → Int32} {x_im1_tries_kept : Nat → Int32} {x_im1_tries_ended : Nat → Int32} {x_im1_tries_number : Int32} {x_taken : Nat → Int32} {x_signs_number : Int32} {x_signs_codes : Nat → Int32} {m_start : Nat → Int32} {m_mass : Nat → Int32} {m_rows : Nat → Int32} {m_told : Nat → Int32} {m_kept : Nat → Int32} {m_ended : Nat → Int32} {m_many : Int32} {m_image : Nat → Int32} {m_isKept : Nat → Int32} {m_signs : Int32} {m_sign : Nat → Int32} (hR : Rl x_now_night_start x_now_night_mass x_now_night_row x_now_night_alike x_now_tries_kept x_now_tries_ended x_now_tries_number x_im0_night_start x_im0_night_mass x_im0_night_row x_im0_night_alike x_im0_tries_kept x_im0_tries_ended x_im0_tries_number x_im1_night_start x_im1_night_mass x_im1_night_row x_im1_night_alike x_im1_tries_kept x_im1_tries_ended x_im1_tries_number x_taken x_signs_number x_signs_codes m_start m_mass m_rows m_told m_kept m_ended m_many m_image m_isKept m_signs m_sign) (x_run_cells : Nat → Int32) (x_run_losses : Nat → Int32) (x_run_rates : Nat → Int32) (m_cell : Nat → Int64) (m_loss : Nat → Int64) (m_read : Nat → Int32) (p0 : Int32) (p1 : Int32) (p2 : Int32) : (X6_gain x_now_night_start x_now_night_mass x_now_night_alike x_run_cells x_run_losses x_run_rates p0 p1 p2) = (X7_gain m_start m_mass m_told m_cell m_loss m_read p0 p1 p2) := by
  obtain ⟨hN, -⟩ := hR
  unfold X6_gain X7_gain
  show (if X6_within p0 0 2 = 0 then _ else if X6_within p1 0 9 = 0 then _ else if X6_within p2 0 7 = 0 then _ else _) = (if X6_within p0 0 2 = 0 then _ else if X6_within p1 0 9 = 0 then _ else if X6_within p2 0 7 = 0 then _ else _)
  by_cases a : X6_within p0 0 2 = 0
  · rw [if_pos a, if_pos a]
  · rw [if_neg a, if_neg a]
    by_cases b : X6_within p1 0 9 = 0
    · rw [if_pos b, if_pos b]
    · rw [if_neg b, if_neg b]
      by_cases c : X6_within p2 0 7 = 0
      · rw [if_pos c, if_pos c]
      · rw [if_neg c, if_neg c]
        exact gain_e hN p0 (w_b b) (ca_in c) _ _ _ _ _ _
theorem cd_m : ∀ i : Fin 3, ∀ j : Fin 8, ((nI j.val ||| ((1 : Int32) <<< (nI i.val &&& 31))) = nI (nI j.val ||| ((1 : Int32) <<< (nI i.val &&& 31))).toNatClampNeg ∧ (nI j.val ||| ((1 : Int32) <<< (nI i.val &&& 31))).toNatClampNeg < 8) ∧ ((1 : Int32) <<< (nI i.val &&& 31)) = nI ((1 : Int32) <<< (nI i.val &&& 31)).toNatClampNeg ∧ ((1 : Int32) <<< (nI i.val &&& 31)).toNatClampNeg < 8 := by decide
theorem cd_m2 {c : Int32} (hc : 0 ≤ c.toInt ∧ c.toInt ≤ 2) {j : Nat} (hj : j < 8) : ((nI j ||| ((1 : Int32) <<< (c &&& 31))) = nI (nI j ||| ((1 : Int32) <<< (c &&& 31))).toNatClampNeg ∧ (nI j ||| ((1 : Int32) <<< (c &&& 31))).toNatClampNeg < 8) ∧ ((1 : Int32) <<< (c &&& 31)) = nI ((1 : Int32) <<< (c &&& 31)).toNatClampNeg ∧ ((1 : Int32) <<< (c &&& 31)).toNatClampNeg < 8 := by
  have z : (0 : Int32).toInt = 0 := rfl
  have o : (2 : Int32).toInt = 2 := rfl
  obtain ⟨i, hi, e⟩ := nI_of2 (x := c) (M := 2) (n := 2) rfl (by rw [lt32]; omega) (by rw [le32]; omega)
  subst e
  exact cd_m ⟨i, by omega⟩ ⟨j, hj⟩
def gg (st' ma' to : Nat → Int32) (mg b m : Int32) : Int32 := X7_gainOf st' ma' to (fun _ => 0) (fun _ => 0) (fun _ => 0) mg b m
def cm (f : Int32 → Int32) (bit : Int32) : Nat → Int32 × Int32
  | 0 => (f bit - f 0, f bit - f 0)
  | j + 1 => if (nI j &&& bit) = 0 then (if (cm f bit j).1 ≤ f (nI j ||| bit) - f (nI j) then (cm f bit j).1 else f (nI j ||| bit) - f (nI j), if f (nI j ||| bit) - f (nI j) ≤ (cm f bit j).2 then (cm f bit j).2 else f (nI j ||| bit) - f (nI j)) else cm f bit j
theorem cm_s (f : Int32 → Int32) (bit : Int32) (j : Nat) : cm f bit (j + 1) = if (nI j &&& bit) = 0 then (if (cm f bit j).1 ≤ f (nI j ||| bit) - f (nI j) then (cm f bit j).1 else f (nI j ||| bit) - f (nI j), if f (nI j ||| bit) - f (nI j) ≤ (cm f bit j).2 then (cm f bit j).2 else f (nI j ||| bit) - f (nI j)) else cm f bit j := rfl
section
variable {st ma : Nat → Int32} {ro : Nat → Int64} {al st' ma' ro' to : Nat → Int32}
theorem gg_7 (hN : RN st ma ro al st' ma' ro' to) {b : Int32} (hb : 0 ≤ b.toInt ∧ b.toInt ≤ 9) (mg : Int32) {j : Nat} (hj : j < 8) (cell loss : Nat → Int64) (read : Nat → Int32) : X7_gainOf st' ma' to cell loss read mg b (nI j) = gg st' ma' to mg b (nI j) := by
  unfold gg
  rw [← gain_e hN mg hb ⟨j, hj, rfl⟩ (fun _ => 0) (fun _ => 0) (fun _ => 0) cell loss read, gain_e hN mg hb ⟨j, hj, rfl⟩ (fun _ => 0) (fun _ => 0) (fun _ => 0) (fun _ => 0) (fun _ => 0) (fun _ => 0)]
theorem gg_6 (hN : RN st ma ro al st' ma' ro' to) {b : Int32} (hb : 0 ≤ b.toInt ∧ b.toInt ≤ 9) (mg : Int32) {m : Int32} (hm : ∃ j : Nat, j < 8 ∧ m = nI j) (rc rl rr : Nat → Int32) : X6_gainBy st ma al rc rl rr mg b m = gg st' ma' to mg b m :=
  gain_e hN mg hb hm rc rl rr (fun _ => 0) (fun _ => 0) (fun _ => 0)
theorem cd_t (hN : RN st ma ro al st' ma' ro' to) {b : Int32} (hb : 0 ≤ b.toInt ∧ b.toInt ≤ 9) (mg : Int32) (le ri fr : Int64) (be la ru : Int32) (cell loss : Nat → Int64) (read ga : Nat → Int32) : ∀ n, n ≤ 8 → ∀ k, k < n → (X7_could_L42 le ri fr be la ru st' ma' to cell loss read ga mg b n).2.2.2.2.2.2.2.2.2 k = gg st' ma' to mg b (nI k)
  | 0, _ => fun k hk => absurd hk (by omega)
  | n + 1, hn => fun k hk => by
    show upd (X7_could_L42 le ri fr be la ru st' ma' to cell loss read ga mg b n).2.2.2.2.2.2.2.2.2 n _ k = _
    by_cases e : k = n
    · subst e
      rw [upd_s]
      exact gg_7 hN hb mg (by omega) _ _ _
    · rw [upd_o e]
      exact cd_t hN hb mg le ri fr be la ru cell loss read ga n (by omega) k (by omega)
theorem cd_7 (hN : RN st ma ro al st' ma' ro' to) {b : Int32} (hb : 0 ≤ b.toInt ∧ b.toInt ≤ 9) (mg : Int32) {c : Int32} (hc : 0 ≤ c.toInt ∧ c.toInt ≤ 2) (le ri fr : Int64) (be la ru : Int32) (cell loss : Nat → Int64) (read ga : Nat → Int32) : ∀ n, n ≤ 8 → X7_could_L102 le ri fr be la ru st' ma' to cell loss read ga mg b c n = cm (gg st' ma' to mg b) ((1 : Int32) <<< (c &&& 31)) n
  | 0, _ => by
    have t := cd_t hN hb mg le ri fr be la ru cell loss read ga 8 (by decide)
    obtain ⟨-, m1, m2⟩ := cd_m2 hc (j := 0) (by decide)
    have e1 := t _ m2
    have e0 := t 0 (by decide)
    rw [← m1] at e1
    rw [X7_could_L102, e1, e0]
    rfl
  | n + 1, hn => by
    have t := cd_t hN hb mg le ri fr be la ru cell loss read ga 8 (by decide)
    have i := cd_7 hN hb mg hc le ri fr be la ru cell loss read ga n (by omega)
    obtain ⟨⟨m1, m2⟩, -⟩ := cd_m2 hc (j := n) (by omega)
    have e1 := t _ m2
    have e0 := t n (by omega)
    rw [← m1] at e1
    rw [X7_could_L102, cm]
    unfold X7_could_m151_s0 X7_could_m167_s0
    rw [e1, e0, i]
theorem cm_1 (f : Int32 → Int32) {c : Int32} (hc : 0 ≤ c.toInt ∧ c.toInt ≤ 2) : cm f ((1 : Int32) <<< (c &&& 31)) 1 = (f ((1 : Int32) <<< (c &&& 31)) - f 0, f ((1 : Int32) <<< (c &&& 31)) - f 0) := by
  have e : (nI 0 ||| ((1 : Int32) <<< (c &&& 31))) = ((1 : Int32) <<< (c &&& 31)) := Int32.zero_or
  have z : (nI 0 &&& ((1 : Int32) <<< (c &&& 31))) = 0 := Int32.zero_and
  rw [cm, if_pos z, e]
  show (if f ((1 : Int32) <<< (c &&& 31)) - f 0 ≤ f ((1 : Int32) <<< (c &&& 31)) - f 0 then f ((1 : Int32) <<< (c &&& 31)) - f 0 else f ((1 : Int32) <<< (c &&& 31)) - f 0, if f ((1 : Int32) <<< (c &&& 31)) - f 0 ≤ f ((1 : Int32) <<< (c &&& 31)) - f 0 then f ((1 : Int32) <<< (c &&& 31)) - f 0 else f ((1 : Int32) <<< (c &&& 31)) - f 0) = _
  rw [ite_self]
theorem cd_6 (hN : RN st ma ro al st' ma' ro' to) {b : Int32} (hb : 0 ≤ b.toInt ∧ b.toInt ≤ 9) (mg : Int32) {c : Int32} (hc : 0 ≤ c.toInt ∧ c.toInt ≤ 2) (rc rl rr : Nat → Int32) : ∀ n, n ≤ 7 → (X6_could_L77 st ma al rc rl rr mg b c n).1 = (cm (gg st' ma' to mg b) ((1 : Int32) <<< (c &&& 31)) (n + 1)).1 ∧ (X6_could_L77 st ma al rc rl rr mg b c n).2.1 = (cm (gg st' ma' to mg b) ((1 : Int32) <<< (c &&& 31)) (n + 1)).2
  | 0, _ => by
    obtain ⟨-, m1, m2⟩ := cd_m2 hc (j := 0) (by decide)
    rw [cm_1 _ hc]
    have e : X6_gainBy st ma al rc rl rr mg b ((1 : Int32) <<< (c &&& 31)) = gg st' ma' to mg b ((1 : Int32) <<< (c &&& 31)) := gg_6 hN hb mg ⟨_, m2, m1⟩ rc rl rr
    have e0 : X6_could_c56_r st ma al rc rl rr mg b c = gg st' ma' to mg b 0 := gg_6 hN hb mg ⟨0, by decide, rfl⟩ _ _ _
    rw [X6_could_L77, e, e0]
    exact ⟨rfl, rfl⟩
  | n + 1, hn => by
    obtain ⟨i1, i2⟩ := cd_6 hN hb mg hc rc rl rr n (by omega)
    obtain ⟨⟨m1, m2⟩, -⟩ := cd_m2 hc (j := n + 1) (by omega)
    have e1 : ∀ a1 a2 a3, X6_could_c100_r st ma al mg b c n a1 a2 a3 = gg st' ma' to mg b (nI (n + 1) ||| ((1 : Int32) <<< (c &&& 31))) := fun a1 a2 a3 => by
      unfold X6_could_c100_r
      rw [Nat.add_comm 1 n]
      exact gg_6 hN hb mg ⟨_, m2, m1⟩ _ _ _
    have e0 : ∀ a1 a2 a3, X6_could_c108_r st ma al mg b c n a1 a2 a3 = gg st' ma' to mg b (nI (n + 1)) := fun a1 a2 a3 => by
      unfold X6_could_c108_r
      rw [Nat.add_comm 1 n]
      exact gg_6 hN hb mg ⟨n + 1, by omega, rfl⟩ _ _ _
    rw [X6_could_L77, e1, e0, i1, i2, Nat.add_comm 1 n, cm_s _ _ (n + 1)]
    by_cases q : (nI (n + 1) &&& ((1 : Int32) <<< (c &&& 31))) = 0
    · rw [if_pos q, if_pos q]
      generalize gg st' ma' to mg b (nI (n + 1) ||| ((1 : Int32) <<< (c &&& 31))) - gg st' ma' to mg b (nI (n + 1)) = d
      generalize cm (gg st' ma' to mg b) ((1 : Int32) <<< (c &&& 31)) (n + 1) = x
      constructor
      · by_cases w : d < x.1
        · exact Eq.trans (if_pos w) (if_neg (Int32.not_le.mpr w)).symm
        · exact Eq.trans (if_neg w) (if_pos (Int32.not_lt.mp w)).symm
      · by_cases w : x.2 < d
        · exact Eq.trans (if_pos w) (if_neg (Int32.not_le.mpr w)).symm
        · exact Eq.trans (if_neg w) (if_pos (Int32.not_lt.mp w)).symm
    · rw [if_neg q, if_neg q]
      exact ⟨rfl, rfl⟩
end
theorem eq_could {x_now_night_start : Nat → Int32} {x_now_night_mass : Nat → Int32} {x_now_night_row : Nat → Int64} {x_now_night_alike : Nat → Int32} {x_now_tries_kept : Nat → Int32} {x_now_tries_ended : Nat → Int32} {x_now_tries_number : Int32} {x_im0_night_start : Nat → Int32} {x_im0_night_mass : Nat → Int32} {x_im0_night_row : Nat → Int64} {x_im0_night_alike : Nat → Int32} {x_im0_tries_kept : Nat → Int32} {x_im0_tries_ended : Nat → Int32} {x_im0_tries_number : Int32} {x_im1_night_start : Nat → Int32} {x_im1_night_mass : Nat → Int32} {x_im1_night_row : Nat → Int64} {x_im1_night_alike : Nat → Int32} {x_im1_tries_kept : Nat → Int32} {x_im1_tries_ended : Nat → Int32} {x_im1_tries_number : Int32} {x_taken : Nat → Int32} {x_signs_number : Int32} {x_signs_codes : Nat → Int32} {m_start : Nat → Int32} {m_mass : Nat → Int32} {m_rows : Nat → Int32} {m_told : Nat → Int32} {m_kept : Nat → Int32} {m_ended : Nat → Int32} {m_many : Int32} {m_image : Nat → Int32} {m_isKept : Nat → Int32} {m_signs : Int32} {m_sign : Nat → Int32} (hR : Rl x_now_night_start x_now_night_mass x_now_night_row x_now_night_alike x_now_tries_kept x_now_tries_ended x_now_tries_number x_im0_night_start x_im0_night_mass x_im0_night_row x_im0_night_alike x_im0_tries_kept x_im0_tries_ended x_im0_tries_number x_im1_night_start x_im1_night_mass x_im1_night_row x_im1_night_alike x_im1_tries_kept x_im1_tries_ended x_im1_tries_number x_taken x_signs_number x_signs_codes m_start m_mass m_rows m_told m_kept m_ended m_many m_image m_isKept m_signs m_sign) (x_run_cells : Nat → Int32) (x_run_losses : Nat → Int32) (x_run_rates : Nat → Int32) (m_left : Int64) (m_rime : Int64) (m_frost : Int64) (m_began : Int32) (m_last : Int32) (m_rounds : Int32) (m_cell : Nat → Int64) (m_loss : Nat → Int64) (m_read : Nat → Int32) (m_gains : Nat → Int32) (p0 : Int32) (p1 : Int32) (p2 : Int32) (p3 : Int32) : (X6_could x_now_night_start x_now_night_mass x_now_night_alike x_run_cells x_run_losses x_run_rates p0 p1 p2 p3) = (X7_could m_left m_rime m_frost m_began m_last m_rounds m_start m_mass m_told m_cell m_loss m_read m_gains p0 p1 p2 p3) := by
  obtain ⟨hN, -⟩ := hR
  unfold X6_could X7_could
  show (if X6_within p2 0 2 = 0 then _ else if X6_within p0 0 2 = 0 then _ else if X6_within p1 0 9 = 0 then _ else if X6_within p3 0 2 = 0 then _ else _) = (if X6_within p2 0 2 = 0 then _ else if X6_within p0 0 2 = 0 then _ else if X6_within p1 0 9 = 0 then _ else if X6_within p3 0 2 = 0 then _ else _)
  by_cases a : X6_within p2 0 2 = 0
  · rw [if_pos a, if_pos a]
  · rw [if_neg a, if_neg a]
    by_cases b : X6_within p0 0 2 = 0
    · rw [if_pos b, if_pos b]
    · rw [if_neg b, if_neg b]
      by_cases c : X6_within p1 0 9 = 0
      · rw [if_pos c, if_pos c]
      · rw [if_neg c, if_neg c]
        by_cases d : X6_within p3 0 2 = 0
        · rw [if_pos d, if_pos d]
        · rw [if_neg d, if_neg d]
          have h7 := cd_7 hN (w_b c) p0 (w_b a) m_left m_rime m_frost m_began m_last m_rounds m_cell m_loss m_read m_gains 8 (by decide)
          obtain ⟨h6, h6'⟩ := cd_6 hN (w_b c) p0 (w_b a) x_run_cells x_run_losses x_run_rates 7 (by decide)
          by_cases e : p3 = 0
          · rw [if_pos e, if_pos e]
            have k7 := cd_7 hN (w_b c) p0 (w_b a) m_left m_rime m_frost m_began m_last m_rounds m_cell m_loss m_read m_gains 0 (by decide)
            have k6 := (cd_6 hN (w_b c) p0 (w_b a) x_run_cells x_run_losses x_run_rates 0 (by decide)).1
            rw [cm_1 _ (w_b a)] at k6
            exact Eq.trans k6 (congrArg Prod.fst k7).symm
          · rw [if_neg e, if_neg e, h7]
            by_cases g : p3 = 1
            · rw [if_pos g, if_pos g]; exact h6
            · rw [if_neg g, if_neg g]; exact h6'
theorem any_d {T6 C T : Int32} (hC : C = 601 ∨ 0 < C.toInt ∧ C.toInt ≤ 600) (h6 : T6 = if T.toInt ≤ (C - 1).toInt then T else 601) : C ≤ T6 ↔ C ≤ T := by
  have z1 : (1 : Int32).toInt = 1 := rfl
  have z6 : (601 : Int32).toInt = 601 := rfl
  have b : 0 < C.toInt ∧ C.toInt ≤ 601 := by
    rcases hC with h | h
    · rw [h, z6]; omega
    · omega
  have s : (C - 1).toInt = C.toInt - 1 := by rw [a_sub (by rw [z1]; omega) (by rw [z1]; omega), z1]
  rw [h6, s, le32, le32]
  by_cases c : T.toInt ≤ C.toInt - 1
  · rw [if_pos c]
  · rw [if_neg c, z6]; omega
theorem any_f (st' ma' to : Nat → Int32) (cell loss : Nat → Int64) (read : Nat → Int32) (mg b : Int32) (n : Nat) {l4 : Int32} (h : 0 ≤ l4) (x : Int32) (b1 b2 b3 : Int64) (b4 b5 b6 : Int32) (b7 b8 : Nat → Int64) (b9 : Nat → Int32) : (X7_any_L39 st' ma' to cell loss read mg b n l4 x b1 b2 b3 b4 b5 b6 b7 b8 b9).1 = l4 := by
  cases n with
  | zero => rfl
  | succ n =>
    rw [X7_any_L39]
    by_cases c : (100 : Int32) < x
    · rw [if_pos c]
    · rw [if_neg c, if_pos h]
theorem any_l {st ma : Nat → Int32} {ro : Nat → Int64} {al st' ma' ro' to : Nat → Int32} (hN : RN st ma ro al st' ma' ro' to) {b : Int32} (hb : 0 ≤ b.toInt ∧ b.toInt ≤ 9) (mg : Int32) (c l r : Nat → Int32) (cell loss : Nat → Int64) (read : Nat → Int32) :
    ∀ (n : Nat) (x a1 a2 a3 a4 a5 a6 a7 a8 a9 a10 a11 a12 a13 a14 a15 : Int32) (a16 a17 a18 : Nat → Int32) (b1 b2 b3 : Int64) (b4 b5 b6 : Int32) (b7 b8 : Nat → Int64) (b9 : Nat → Int32), 0 ≤ x.toInt → x.toInt ≤ 101 → 101 - x.toInt < n →
      (X6_any_L45 st ma al c l r mg b n x a1 a2 a3 a4 a5 a6 a7 a8 a9 a10 a11 a12 a13 a14 a15 a16 a17 a18).1 = (X7_any_L39 st' ma' to cell loss read mg b n (-6) x b1 b2 b3 b4 b5 b6 b7 b8 b9).1 := by
  have A := rn_ca hN
  obtain ⟨g1, g2⟩ := gl_e hN
  intro n
  induction n with
  | zero => intro x a1 a2 a3 a4 a5 a6 a7 a8 a9 a10 a11 a12 a13 a14 a15 a16 a17 a18 b1 b2 b3 b4 b5 b6 b7 b8 b9 h0 h1 h2; exact absurd h2 (by omega)
  | succ n ih =>
    intro x a1 a2 a3 a4 a5 a6 a7 a8 a9 a10 a11 a12 a13 a14 a15 a16 a17 a18 b1 b2 b3 b4 b5 b6 b7 b8 b9 h0 h1 h2
    rw [X6_any_L45, X7_any_L39]
    have z1 : (1 : Int32).toInt = 1 := rfl
    have z0 : (0 : Int32).toInt = 0 := rfl
    have z100 : (100 : Int32).toInt = 100 := rfl
    by_cases c1 : (100 : Int32) < x
    · rw [if_pos c1, if_pos c1]
    · rw [if_neg c1, if_neg c1, if_neg (by decide : ¬ (0 : Int32) ≤ -6)]
      rw [lt32, z100] at c1
      have s : (x + 1).toInt = x.toInt + 1 := by rw [a_add (by rw [z1]; omega) (by rw [z1]; omega), z1]
      have hC : X6_timeOf st ma al c l r 1 b mg (X6_causesAtWork al) = X7_timeAs st' ma' to cell loss read 1 b mg := by
        unfold X7_timeAs X6_causesAtWork
        rw [← A.2]
        exact tm_e hN fx_v1 hb A.1 mg _ _ _ _ _ _
      have V := run_v hN (pp := 1) (b := b) (ca := to 10) (deg := st' (1 : Int32).toNatClampNeg) (k := (to 9).toNatClampNeg) (fy_lt g2) mg cell loss read
      have e7 : X7_timeAs st' ma' to cell loss read 1 b mg = mv mg (X7_run_o_began ma' to cell loss read 1 (st' (1 : Int32).toNatClampNeg) b (to 10) 600) (X7_run_o_read ma' to cell loss read 1 (st' (1 : Int32).toNatClampNeg) b (to 10) 600 (to 9).toNatClampNeg) (X7_run_o_last ma' to cell loss read 1 (st' (1 : Int32).toNatClampNeg) b (to 10) 600) := rfl
      rw [← e7] at V
      have hR : (X7_timeAs st' ma' to cell loss read 1 b mg - 1).toInt ≤ 600 := by
        have z6 : (601 : Int32).toInt = 601 := rfl
        rcases V with h | h
        · rw [h]; decide
        · rw [a_sub (by rw [z1]; omega) (by rw [z1]; omega), z1]; omega
      have e6 : X6_any_c82_r st ma al c l r mg b x a16 a17 a18 = (if (X7_timeOf ma' to b7 b8 b9 0 x b (to 10) mg).toInt ≤ (X7_timeAs st' ma' to cell loss read 1 b mg - 1).toInt then X7_timeOf ma' to b7 b8 b9 0 x b (to 10) mg else 601) := by
        unfold X6_any_c82_r
        rw [hC, g1]
        unfold X6_causesAtWork
        rw [run_e hN fx_v0 hb A.1 (deg := x) ⟨h0, by omega⟩ g2 mg hR a16 a17 a18 b7 b8 b9, A.2]
        rfl
      have D := any_d V e6
      rw [hC]
      unfold X7_any_m78_s0
      by_cases d : X7_timeAs st' ma' to cell loss read 1 b mg ≤ X6_any_c82_r st ma al c l r mg b x a16 a17 a18
      · rw [if_pos d, if_pos (D.mp d)]
        exact ih (x + 1) _ _ _ _ _ _ _ _ _ _ _ _ _ _ _ _ _ _ _ _ _ _ _ _ _ _ _ (by omega) (by omega) (by omega)
      · rw [if_neg d, if_neg (fun q => d (D.mpr q)), any_f st' ma' to cell loss read mg b n (by rw [le32, z0]; omega : (0 : Int32) ≤ x)]
theorem eq_any {x_now_night_start : Nat → Int32} {x_now_night_mass : Nat → Int32} {x_now_night_row : Nat → Int64} {x_now_night_alike : Nat → Int32} {x_now_tries_kept : Nat → Int32} {x_now_tries_ended : Nat → Int32} {x_now_tries_number : Int32} {x_im0_night_start : Nat → Int32} {x_im0_night_mass : Nat → Int32} {x_im0_night_row : Nat → Int64} {x_im0_night_alike : Nat → Int32} {x_im0_tries_kept : Nat → Int32} {x_im0_tries_ended : Nat → Int32} {x_im0_tries_number : Int32} {x_im1_night_start : Nat → Int32} {x_im1_night_mass : Nat → Int32} {x_im1_night_row : Nat → Int64} {x_im1_night_alike : Nat → Int32} {x_im1_tries_kept : Nat → Int32} {x_im1_tries_ended : Nat → Int32} {x_im1_tries_number : Int32} {x_taken : Nat → Int32} {x_signs_number : Int32} {x_signs_codes : Nat → Int32} {m_start : Nat → Int32} {m_mass : Nat → Int32} {m_rows : Nat → Int32} {m_told : Nat → Int32} {m_kept : Nat → Int32} {m_ended : Nat → Int32} {m_many : Int32} {m_image : Nat → Int32} {m_isKept : Nat → Int32} {m_signs : Int32} {m_sign : Nat → Int32} (hR : Rl x_now_night_start x_now_night_mass x_now_night_row x_now_night_alike x_now_tries_kept x_now_tries_ended x_now_tries_number x_im0_night_start x_im0_night_mass x_im0_night_row x_im0_night_alike x_im0_tries_kept x_im0_tries_ended x_im0_tries_number x_im1_night_start x_im1_night_mass x_im1_night_row x_im1_night_alike x_im1_tries_kept x_im1_tries_ended x_im1_tries_number x_taken x_signs_number x_signs_codes m_start m_mass m_rows m_told m_kept m_ended m_many m_image m_isKept m_signs m_sign) (x_run_cells : Nat → Int32) (x_run_losses : Nat → Int32) (x_run_rates : Nat → Int32) (m_cell : Nat → Int64) (m_loss : Nat → Int64) (m_read : Nat → Int32) (p0 : Int32) (p1 : Int32) : (X6_any x_now_night_start x_now_night_mass x_now_night_alike x_run_cells x_run_losses x_run_rates p0 p1) = (X7_any m_start m_mass m_told m_cell m_loss m_read p0 p1) := by
  obtain ⟨hN, -⟩ := hR
  unfold X6_any X7_any
  show (if X6_within p0 0 2 = 0 then _ else if X6_within p1 0 9 = 0 then _ else _) = (if X6_within p0 0 2 = 0 then _ else if X6_within p1 0 9 = 0 then _ else _)
  by_cases a : X6_within p0 0 2 = 0
  · rw [if_pos a, if_pos a]
  · rw [if_neg a, if_neg a]
    by_cases b : X6_within p1 0 9 = 0
    · rw [if_pos b, if_pos b]
    · rw [if_neg b, if_neg b]
      have hst := hN.1 1 (by decide)
      have z1 : (1 : Int32).toInt = 1 := rfl
      have s : (x_now_night_start 1 + 1).toInt = (x_now_night_start 1).toInt + 1 := by rw [a_add (by rw [z1]; omega) (by rw [z1]; omega), z1]
      rw [← hst.1]
      have f : 101 - (x_now_night_start 1 + 1).toInt < (((101 - (x_now_night_start 1 + 1).toInt).toNat + 1 : Nat) : Int) := by omega
      generalize (101 - (x_now_night_start 1 + 1).toInt).toNat + 1 = n at f ⊢
      exact any_l hN (w_b b) p0 _ _ _ _ _ _ n _ _ _ _ _ _ _ _ _ _ _ _ _ _ _ _ _ _ _ _ _ _ _ _ _ _ _ _ (by omega) (by omega) f
theorem eq_chance {x_now_night_start : Nat → Int32} {x_now_night_mass : Nat → Int32} {x_now_night_row : Nat → Int64} {x_now_night_alike : Nat → Int32} {x_now_tries_kept : Nat → Int32} {x_now_tries_ended : Nat → Int32} {x_now_tries_number : Int32} {x_im0_night_start : Nat → Int32} {x_im0_night_mass : Nat → Int32} {x_im0_night_row : Nat → Int64} {x_im0_night_alike : Nat → Int32} {x_im0_tries_kept : Nat → Int32} {x_im0_tries_ended : Nat → Int32} {x_im0_tries_number : Int32} {x_im1_night_start : Nat → Int32} {x_im1_night_mass : Nat → Int32} {x_im1_night_row : Nat → Int64} {x_im1_night_alike : Nat → Int32} {x_im1_tries_kept : Nat → Int32} {x_im1_tries_ended : Nat → Int32} {x_im1_tries_number : Int32} {x_taken : Nat → Int32} {x_signs_number : Int32} {x_signs_codes : Nat → Int32} {m_start : Nat → Int32} {m_mass : Nat → Int32} {m_rows : Nat → Int32} {m_told : Nat → Int32} {m_kept : Nat → Int32} {m_ended : Nat → Int32} {m_many : Int32} {m_image : Nat → Int32} {m_isKept : Nat → Int32} {m_signs : Int32} {m_sign : Nat → Int32} (hR : Rl x_now_night_start x_now_night_mass x_now_night_row x_now_night_alike x_now_tries_kept x_now_tries_ended x_now_tries_number x_im0_night_start x_im0_night_mass x_im0_night_row x_im0_night_alike x_im0_tries_kept x_im0_tries_ended x_im0_tries_number x_im1_night_start x_im1_night_mass x_im1_night_row x_im1_night_alike x_im1_tries_kept x_im1_tries_ended x_im1_tries_number x_taken x_signs_number x_signs_codes m_start m_mass m_rows m_told m_kept m_ended m_many m_image m_isKept m_signs m_sign) (p0 : Int32) (p1 : Int32) (p2 : Int32) : (X6_chance p0 p1 p2) = (X7_chance p0 p1 p2) := by
  unfold X6_chance X7_chance
  rw [in_e, in_e, two_e, show X6_isPart p2 = X6_within p2 0 1 from rfl]
  by_cases a : X6_within p1 1 40 = 0
  · rw [if_pos a, if_pos a]
  · rw [if_neg a, if_neg a]
    by_cases b : X6_within p0 0 p1 = 0
    · rw [if_pos b, if_pos b]
    · rw [if_neg b, if_neg b]
      by_cases c : X6_within p2 0 1 = 0
      · rw [if_pos c, if_pos c]
      · rw [if_neg c, if_neg c]
        obtain ⟨n0, n1⟩ := w_b a
        obtain ⟨w, w0, -⟩ := ways_e (k := p0) (n := p1) n0 n1
        rw [w]
        exact part_e w0 (p2_n n0 n1).1 (w01 c)
theorem eq_pairs {x_now_night_start : Nat → Int32} {x_now_night_mass : Nat → Int32} {x_now_night_row : Nat → Int64} {x_now_night_alike : Nat → Int32} {x_now_tries_kept : Nat → Int32} {x_now_tries_ended : Nat → Int32} {x_now_tries_number : Int32} {x_im0_night_start : Nat → Int32} {x_im0_night_mass : Nat → Int32} {x_im0_night_row : Nat → Int64} {x_im0_night_alike : Nat → Int32} {x_im0_tries_kept : Nat → Int32} {x_im0_tries_ended : Nat → Int32} {x_im0_tries_number : Int32} {x_im1_night_start : Nat → Int32} {x_im1_night_mass : Nat → Int32} {x_im1_night_row : Nat → Int64} {x_im1_night_alike : Nat → Int32} {x_im1_tries_kept : Nat → Int32} {x_im1_tries_ended : Nat → Int32} {x_im1_tries_number : Int32} {x_taken : Nat → Int32} {x_signs_number : Int32} {x_signs_codes : Nat → Int32} {m_start : Nat → Int32} {m_mass : Nat → Int32} {m_rows : Nat → Int32} {m_told : Nat → Int32} {m_kept : Nat → Int32} {m_ended : Nat → Int32} {m_many : Int32} {m_image : Nat → Int32} {m_isKept : Nat → Int32} {m_signs : Int32} {m_sign : Nat → Int32} (hR : Rl x_now_night_start x_now_night_mass x_now_night_row x_now_night_alike x_now_tries_kept x_now_tries_ended x_now_tries_number x_im0_night_start x_im0_night_mass x_im0_night_row x_im0_night_alike x_im0_tries_kept x_im0_tries_ended x_im0_tries_number x_im1_night_start x_im1_night_mass x_im1_night_row x_im1_night_alike x_im1_tries_kept x_im1_tries_ended x_im1_tries_number x_taken x_signs_number x_signs_codes m_start m_mass m_rows m_told m_kept m_ended m_many m_image m_isKept m_signs m_sign) (p0 : Int32) (p1 : Int32) : (X6_pairs p0 p1) = (X7_pairs p0 p1) := by
  unfold X6_pairs X7_pairs
  rw [in_e, in_e]
  by_cases a : X6_within p0 6 10 = 0
  · rw [if_pos a, if_pos a]
  · rw [if_neg a, if_neg a]
    by_cases b : X6_within p1 1 200 = 0
    · rw [if_pos b, if_pos b]
    · rw [if_neg b, if_neg b]
      exact pairs_l (w_b b).1 (w_b b).2 41 1 (by decide) (by decide)
theorem eq_say {x_now_night_start : Nat → Int32} {x_now_night_mass : Nat → Int32} {x_now_night_row : Nat → Int64} {x_now_night_alike : Nat → Int32} {x_now_tries_kept : Nat → Int32} {x_now_tries_ended : Nat → Int32} {x_now_tries_number : Int32} {x_im0_night_start : Nat → Int32} {x_im0_night_mass : Nat → Int32} {x_im0_night_row : Nat → Int64} {x_im0_night_alike : Nat → Int32} {x_im0_tries_kept : Nat → Int32} {x_im0_tries_ended : Nat → Int32} {x_im0_tries_number : Int32} {x_im1_night_start : Nat → Int32} {x_im1_night_mass : Nat → Int32} {x_im1_night_row : Nat → Int64} {x_im1_night_alike : Nat → Int32} {x_im1_tries_kept : Nat → Int32} {x_im1_tries_ended : Nat → Int32} {x_im1_tries_number : Int32} {x_taken : Nat → Int32} {x_signs_number : Int32} {x_signs_codes : Nat → Int32} {m_start : Nat → Int32} {m_mass : Nat → Int32} {m_rows : Nat → Int32} {m_told : Nat → Int32} {m_kept : Nat → Int32} {m_ended : Nat → Int32} {m_many : Int32} {m_image : Nat → Int32} {m_isKept : Nat → Int32} {m_signs : Int32} {m_sign : Nat → Int32} (hR : Rl x_now_night_start x_now_night_mass x_now_night_row x_now_night_alike x_now_tries_kept x_now_tries_ended x_now_tries_number x_im0_night_start x_im0_night_mass x_im0_night_row x_im0_night_alike x_im0_tries_kept x_im0_tries_ended x_im0_tries_number x_im1_night_start x_im1_night_mass x_im1_night_row x_im1_night_alike x_im1_tries_kept x_im1_tries_ended x_im1_tries_number x_taken x_signs_number x_signs_codes m_start m_mass m_rows m_told m_kept m_ended m_many m_image m_isKept m_signs m_sign) (p0 : Int32) : (X6_say x_signs_number p0) = (X7_say m_signs p0) := by
  obtain ⟨e, hb, -⟩ := hR.2.2.1
  subst e
  have z : (60 : Int32).toInt = 60 := rfl
  unfold X6_say X7_say X4_add_o_number
  show (if X6_within p0 33 126 = 0 then _ else _) = (if X6_within p0 33 126 = 0 then _ else _)
  by_cases a : X6_within p0 33 126 = 0
  · rw [if_pos a, if_pos a]
  · rw [if_neg a, if_neg a]
    by_cases c : x_signs_number < 60
    · have d : ¬ x_signs_number = 60 := by rw [lt32, z] at c; rw [eq32, z]; omega
      rw [if_pos c, if_pos c, if_neg d]
    · have d : x_signs_number = 60 := by rw [lt32, z] at c; rw [eq32, z]; omega
      rw [if_neg c, if_pos d]
theorem rel_say {x_now_night_start : Nat → Int32} {x_now_night_mass : Nat → Int32} {x_now_night_row : Nat → Int64} {x_now_night_alike : Nat → Int32} {x_now_tries_kept : Nat → Int32} {x_now_tries_ended : Nat → Int32} {x_now_tries_number : Int32} {x_im0_night_start : Nat → Int32} {x_im0_night_mass : Nat → Int32} {x_im0_night_row : Nat → Int64} {x_im0_night_alike : Nat → Int32} {x_im0_tries_kept : Nat → Int32} {x_im0_tries_ended : Nat → Int32} {x_im0_tries_number : Int32} {x_im1_night_start : Nat → Int32} {x_im1_night_mass : Nat → Int32} {x_im1_night_row : Nat → Int64} {x_im1_night_alike : Nat → Int32} {x_im1_tries_kept : Nat → Int32} {x_im1_tries_ended : Nat → Int32} {x_im1_tries_number : Int32} {x_taken : Nat → Int32} {x_signs_number : Int32} {x_signs_codes : Nat → Int32} {m_start : Nat → Int32} {m_mass : Nat → Int32} {m_rows : Nat → Int32} {m_told : Nat → Int32} {m_kept : Nat → Int32} {m_ended : Nat → Int32} {m_many : Int32} {m_image : Nat → Int32} {m_isKept : Nat → Int32} {m_signs : Int32} {m_sign : Nat → Int32} (hR : Rl x_now_night_start x_now_night_mass x_now_night_row x_now_night_alike x_now_tries_kept x_now_tries_ended x_now_tries_number x_im0_night_start x_im0_night_mass x_im0_night_row x_im0_night_alike x_im0_tries_kept x_im0_tries_ended x_im0_tries_number x_im1_night_start x_im1_night_mass x_im1_night_row x_im1_night_alike x_im1_tries_kept x_im1_tries_ended x_im1_tries_number x_taken x_signs_number x_signs_codes m_start m_mass m_rows m_told m_kept m_ended m_many m_image m_isKept m_signs m_sign) (p0 : Int32) : Rl x_now_night_start x_now_night_mass x_now_night_row x_now_night_alike x_now_tries_kept x_now_tries_ended x_now_tries_number x_im0_night_start x_im0_night_mass x_im0_night_row x_im0_night_alike x_im0_tries_kept x_im0_tries_ended x_im0_tries_number x_im1_night_start x_im1_night_mass x_im1_night_row x_im1_night_alike x_im1_tries_kept x_im1_tries_ended x_im1_tries_number x_taken (X6_say_o_signs_number x_signs_number p0) (X6_say_o_signs_codes x_signs_number x_signs_codes p0) m_start m_mass m_rows m_told m_kept m_ended m_many m_image m_isKept (X7_say_o_signs m_signs p0) (X7_say_o_sign m_signs m_sign p0) := by
  obtain ⟨hN, hT, hS, hq⟩ := hR
  refine ⟨hN, hT, ?_, hq⟩
  obtain ⟨e, hb, hc⟩ := hS
  subst e
  have z : (60 : Int32).toInt = 60 := rfl
  have z1 : (1 : Int32).toInt = 1 := rfl
  unfold X6_say_o_signs_number X6_say_o_signs_codes X7_say_o_signs X7_say_o_sign X4_add_o_number X4_add_o_codes
  rw [in_e]
  by_cases a : X6_within p0 33 126 = 0
  · rw [if_pos a, if_pos a, if_pos a, if_pos a]; exact ⟨rfl, hb, hc⟩
  · rw [if_neg a, if_neg a, if_neg a, if_neg a]
    by_cases c : x_signs_number < 60
    · have d : ¬ x_signs_number = 60 := by rw [lt32, z] at c; rw [eq32, z]; omega
      rw [if_pos c, if_pos c, if_pos c, if_pos c, if_neg d, if_neg d]
      rw [lt32, z] at c
      have s : (x_signs_number + 1).toInt = x_signs_number.toInt + 1 := by rw [a_add (by rw [z1]; omega) (by rw [z1]; omega), z1]
      refine ⟨rfl, by rw [s]; omega, fun k hk => ?_⟩
      have t1 := tn_e (x := x_signs_number + 1) (by rw [s]; omega)
      have t2 := tn_e (x := x_signs_number) hb.1
      by_cases e : k = x_signs_number.toNatClampNeg
      · rw [e, upd_s, upd_s]; exact ⟨rfl, w_b a⟩
      · rw [upd_o e, upd_o e]; exact hc k (by omega)
    · have d : x_signs_number = 60 := by rw [lt32, z] at c; rw [eq32, z]; omega
      rw [if_neg c, if_neg c, if_pos d, if_pos d]; exact ⟨rfl, hb, hc⟩
theorem eq_wipe {x_now_night_start : Nat → Int32} {x_now_night_mass : Nat → Int32} {x_now_night_row : Nat → Int64} {x_now_night_alike : Nat → Int32} {x_now_tries_kept : Nat → Int32} {x_now_tries_ended : Nat → Int32} {x_now_tries_number : Int32} {x_im0_night_start : Nat → Int32} {x_im0_night_mass : Nat → Int32} {x_im0_night_row : Nat → Int64} {x_im0_night_alike : Nat → Int32} {x_im0_tries_kept : Nat → Int32} {x_im0_tries_ended : Nat → Int32} {x_im0_tries_number : Int32} {x_im1_night_start : Nat → Int32} {x_im1_night_mass : Nat → Int32} {x_im1_night_row : Nat → Int64} {x_im1_night_alike : Nat → Int32} {x_im1_tries_kept : Nat → Int32} {x_im1_tries_ended : Nat → Int32} {x_im1_tries_number : Int32} {x_taken : Nat → Int32} {x_signs_number : Int32} {x_signs_codes : Nat → Int32} {m_start : Nat → Int32} {m_mass : Nat → Int32} {m_rows : Nat → Int32} {m_told : Nat → Int32} {m_kept : Nat → Int32} {m_ended : Nat → Int32} {m_many : Int32} {m_image : Nat → Int32} {m_isKept : Nat → Int32} {m_signs : Int32} {m_sign : Nat → Int32} (hR : Rl x_now_night_start x_now_night_mass x_now_night_row x_now_night_alike x_now_tries_kept x_now_tries_ended x_now_tries_number x_im0_night_start x_im0_night_mass x_im0_night_row x_im0_night_alike x_im0_tries_kept x_im0_tries_ended x_im0_tries_number x_im1_night_start x_im1_night_mass x_im1_night_row x_im1_night_alike x_im1_tries_kept x_im1_tries_ended x_im1_tries_number x_taken x_signs_number x_signs_codes m_start m_mass m_rows m_told m_kept m_ended m_many m_image m_isKept m_signs m_sign) : (X6_wipe x_signs_number) = (X7_wipe m_signs) := by
  exact hR.2.2.1.1
theorem rel_wipe {x_now_night_start : Nat → Int32} {x_now_night_mass : Nat → Int32} {x_now_night_row : Nat → Int64} {x_now_night_alike : Nat → Int32} {x_now_tries_kept : Nat → Int32} {x_now_tries_ended : Nat → Int32} {x_now_tries_number : Int32} {x_im0_night_start : Nat → Int32} {x_im0_night_mass : Nat → Int32} {x_im0_night_row : Nat → Int64} {x_im0_night_alike : Nat → Int32} {x_im0_tries_kept : Nat → Int32} {x_im0_tries_ended : Nat → Int32} {x_im0_tries_number : Int32} {x_im1_night_start : Nat → Int32} {x_im1_night_mass : Nat → Int32} {x_im1_night_row : Nat → Int64} {x_im1_night_alike : Nat → Int32} {x_im1_tries_kept : Nat → Int32} {x_im1_tries_ended : Nat → Int32} {x_im1_tries_number : Int32} {x_taken : Nat → Int32} {x_signs_number : Int32} {x_signs_codes : Nat → Int32} {m_start : Nat → Int32} {m_mass : Nat → Int32} {m_rows : Nat → Int32} {m_told : Nat → Int32} {m_kept : Nat → Int32} {m_ended : Nat → Int32} {m_many : Int32} {m_image : Nat → Int32} {m_isKept : Nat → Int32} {m_signs : Int32} {m_sign : Nat → Int32} (hR : Rl x_now_night_start x_now_night_mass x_now_night_row x_now_night_alike x_now_tries_kept x_now_tries_ended x_now_tries_number x_im0_night_start x_im0_night_mass x_im0_night_row x_im0_night_alike x_im0_tries_kept x_im0_tries_ended x_im0_tries_number x_im1_night_start x_im1_night_mass x_im1_night_row x_im1_night_alike x_im1_tries_kept x_im1_tries_ended x_im1_tries_number x_taken x_signs_number x_signs_codes m_start m_mass m_rows m_told m_kept m_ended m_many m_image m_isKept m_signs m_sign) : Rl x_now_night_start x_now_night_mass x_now_night_row x_now_night_alike x_now_tries_kept x_now_tries_ended x_now_tries_number x_im0_night_start x_im0_night_mass x_im0_night_row x_im0_night_alike x_im0_tries_kept x_im0_tries_ended x_im0_tries_number x_im1_night_start x_im1_night_mass x_im1_night_row x_im1_night_alike x_im1_tries_kept x_im1_tries_ended x_im1_tries_number x_taken X6_wipe_o_signs_number x_signs_codes m_start m_mass m_rows m_told m_kept m_ended m_many m_image m_isKept X7_wipe_o_signs m_sign := by
  obtain ⟨hN, hT, hS, hq⟩ := hR
  refine ⟨hN, hT, ⟨rfl, by decide, fun k hk => ?_⟩, hq⟩
  exact absurd hk (by show ¬ k < 0; omega)
theorem eq_fault {x_now_night_start : Nat → Int32} {x_now_night_mass : Nat → Int32} {x_now_night_row : Nat → Int64} {x_now_night_alike : Nat → Int32} {x_now_tries_kept : Nat → Int32} {x_now_tries_ended : Nat → Int32} {x_now_tries_number : Int32} {x_im0_night_start : Nat → Int32} {x_im0_night_mass : Nat → Int32} {x_im0_night_row : Nat → Int64} {x_im0_night_alike : Nat → Int32} {x_im0_tries_kept : Nat → Int32} {x_im0_tries_ended : Nat → Int32} {x_im0_tries_number : Int32} {x_im1_night_start : Nat → Int32} {x_im1_night_mass : Nat → Int32} {x_im1_night_row : Nat → Int64} {x_im1_night_alike : Nat → Int32} {x_im1_tries_kept : Nat → Int32} {x_im1_tries_ended : Nat → Int32} {x_im1_tries_number : Int32} {x_taken : Nat → Int32} {x_signs_number : Int32} {x_signs_codes : Nat → Int32} {m_start : Nat → Int32} {m_mass : Nat → Int32} {m_rows : Nat → Int32} {m_told : Nat → Int32} {m_kept : Nat → Int32} {m_ended : Nat → Int32} {m_many : Int32} {m_image : Nat → Int32} {m_isKept : Nat → Int32} {m_signs : Int32} {m_sign : Nat → Int32} (hR : Rl x_now_night_start x_now_night_mass x_now_night_row x_now_night_alike x_now_tries_kept x_now_tries_ended x_now_tries_number x_im0_night_start x_im0_night_mass x_im0_night_row x_im0_night_alike x_im0_tries_kept x_im0_tries_ended x_im0_tries_number x_im1_night_start x_im1_night_mass x_im1_night_row x_im1_night_alike x_im1_tries_kept x_im1_tries_ended x_im1_tries_number x_taken x_signs_number x_signs_codes m_start m_mass m_rows m_told m_kept m_ended m_many m_image m_isKept m_signs m_sign) (x_signs_found_kept : Nat → Int32) (x_signs_found_ended : Nat → Int32) : (X6_fault x_signs_number x_signs_found_kept x_signs_found_ended x_signs_codes) = (X7_fault m_signs m_sign) := by
  exact (rd0 hR.2.2.1 m_kept m_ended x_signs_found_kept x_signs_found_ended).1
theorem eq_tries {x_now_night_start : Nat → Int32} {x_now_night_mass : Nat → Int32} {x_now_night_row : Nat → Int64} {x_now_night_alike : Nat → Int32} {x_now_tries_kept : Nat → Int32} {x_now_tries_ended : Nat → Int32} {x_now_tries_number : Int32} {x_im0_night_start : Nat → Int32} {x_im0_night_mass : Nat → Int32} {x_im0_night_row : Nat → Int64} {x_im0_night_alike : Nat → Int32} {x_im0_tries_kept : Nat → Int32} {x_im0_tries_ended : Nat → Int32} {x_im0_tries_number : Int32} {x_im1_night_start : Nat → Int32} {x_im1_night_mass : Nat → Int32} {x_im1_night_row : Nat → Int64} {x_im1_night_alike : Nat → Int32} {x_im1_tries_kept : Nat → Int32} {x_im1_tries_ended : Nat → Int32} {x_im1_tries_number : Int32} {x_taken : Nat → Int32} {x_signs_number : Int32} {x_signs_codes : Nat → Int32} {m_start : Nat → Int32} {m_mass : Nat → Int32} {m_rows : Nat → Int32} {m_told : Nat → Int32} {m_kept : Nat → Int32} {m_ended : Nat → Int32} {m_many : Int32} {m_image : Nat → Int32} {m_isKept : Nat → Int32} {m_signs : Int32} {m_sign : Nat → Int32} (hR : Rl x_now_night_start x_now_night_mass x_now_night_row x_now_night_alike x_now_tries_kept x_now_tries_ended x_now_tries_number x_im0_night_start x_im0_night_mass x_im0_night_row x_im0_night_alike x_im0_tries_kept x_im0_tries_ended x_im0_tries_number x_im1_night_start x_im1_night_mass x_im1_night_row x_im1_night_alike x_im1_tries_kept x_im1_tries_ended x_im1_tries_number x_taken x_signs_number x_signs_codes m_start m_mass m_rows m_told m_kept m_ended m_many m_image m_isKept m_signs m_sign) (x_signs_found_kept : Nat → Int32) (x_signs_found_ended : Nat → Int32) : (X6_tries x_signs_number x_signs_found_kept x_signs_found_ended x_signs_codes) = (X7_tries m_signs m_sign m_kept m_ended) := by
  obtain ⟨a, b⟩ := rd0 hR.2.2.1 m_kept m_ended x_signs_found_kept x_signs_found_ended
  have e := hR.2.2.1.1
  subst e
  unfold X6_tries X7_tries
  have u : X4_read x_signs_number x_signs_found_kept x_signs_found_ended x_signs_codes = X7_faultOf x_signs_number m_sign := a
  rw [u]
  by_cases c : X7_faultOf x_signs_number m_sign < 0
  · obtain ⟨g0, -, -, -, -, g⟩ := b c
    rw [if_pos c, if_pos g0]
    exact g.1
  · rw [if_neg c, if_neg (fun h => c (by rw [h]; decide))]
theorem rel_tries {x_now_night_start : Nat → Int32} {x_now_night_mass : Nat → Int32} {x_now_night_row : Nat → Int64} {x_now_night_alike : Nat → Int32} {x_now_tries_kept : Nat → Int32} {x_now_tries_ended : Nat → Int32} {x_now_tries_number : Int32} {x_im0_night_start : Nat → Int32} {x_im0_night_mass : Nat → Int32} {x_im0_night_row : Nat → Int64} {x_im0_night_alike : Nat → Int32} {x_im0_tries_kept : Nat → Int32} {x_im0_tries_ended : Nat → Int32} {x_im0_tries_number : Int32} {x_im1_night_start : Nat → Int32} {x_im1_night_mass : Nat → Int32} {x_im1_night_row : Nat → Int64} {x_im1_night_alike : Nat → Int32} {x_im1_tries_kept : Nat → Int32} {x_im1_tries_ended : Nat → Int32} {x_im1_tries_number : Int32} {x_taken : Nat → Int32} {x_signs_number : Int32} {x_signs_codes : Nat → Int32} {m_start : Nat → Int32} {m_mass : Nat → Int32} {m_rows : Nat → Int32} {m_told : Nat → Int32} {m_kept : Nat → Int32} {m_ended : Nat → Int32} {m_many : Int32} {m_image : Nat → Int32} {m_isKept : Nat → Int32} {m_signs : Int32} {m_sign : Nat → Int32} (hR : Rl x_now_night_start x_now_night_mass x_now_night_row x_now_night_alike x_now_tries_kept x_now_tries_ended x_now_tries_number x_im0_night_start x_im0_night_mass x_im0_night_row x_im0_night_alike x_im0_tries_kept x_im0_tries_ended x_im0_tries_number x_im1_night_start x_im1_night_mass x_im1_night_row x_im1_night_alike x_im1_tries_kept x_im1_tries_ended x_im1_tries_number x_taken x_signs_number x_signs_codes m_start m_mass m_rows m_told m_kept m_ended m_many m_image m_isKept m_signs m_sign) (x_signs_found_kept : Nat → Int32) (x_signs_found_ended : Nat → Int32) : Rl x_now_night_start x_now_night_mass x_now_night_row x_now_night_alike (X6_tries_o_now_tries_kept x_signs_number x_signs_found_kept x_signs_found_ended x_signs_codes x_now_tries_kept) (X6_tries_o_now_tries_ended x_signs_number x_signs_found_kept x_signs_found_ended x_signs_codes x_now_tries_ended) (X6_tries_o_now_tries_number x_signs_number x_signs_found_kept x_signs_found_ended x_signs_codes x_now_tries_number) x_im0_night_start x_im0_night_mass x_im0_night_row x_im0_night_alike x_im0_tries_kept x_im0_tries_ended x_im0_tries_number x_im1_night_start x_im1_night_mass x_im1_night_row x_im1_night_alike x_im1_tries_kept x_im1_tries_ended x_im1_tries_number x_taken (X6_tries_o_signs_number x_signs_number x_signs_found_kept x_signs_found_ended x_signs_codes) x_signs_codes m_start m_mass m_rows m_told (X7_tries_o_kept m_signs m_sign m_kept m_ended) (X7_tries_o_ended m_signs m_sign m_kept m_ended) (X7_tries_o_many m_signs m_many m_sign m_kept m_ended) m_image m_isKept (X7_tries_o_signs m_signs m_sign) m_sign := by
  obtain ⟨a, b⟩ := rd0 hR.2.2.1 m_kept m_ended x_signs_found_kept x_signs_found_ended
  have e := hR.2.2.1.1
  subst e
  unfold X6_tries_o_now_tries_kept X6_tries_o_now_tries_ended X6_tries_o_now_tries_number X6_tries_o_signs_number X7_tries_o_kept X7_tries_o_ended X7_tries_o_many X7_tries_o_signs
  have u : X4_read x_signs_number x_signs_found_kept x_signs_found_ended x_signs_codes = X7_faultOf x_signs_number m_sign := a
  rw [u]
  obtain ⟨hN, hT, hS, hq⟩ := hR
  by_cases c : X7_faultOf x_signs_number m_sign < 0
  · obtain ⟨g0, -, -, -, -, g⟩ := b c
    rw [if_pos c, if_pos c, if_pos c, if_pos c, if_pos g0, if_pos g0, if_pos g0, if_pos g0]
    refine ⟨hN, rt_ext g (fun k hk => cpy_l hk) (fun k hk => cpy_l hk) (fun k hk => rfl) (fun k hk => rfl), ⟨rfl, by decide, fun k hk => ?_⟩, hq⟩
    exact absurd hk (by show ¬ k < 0; omega)
  · have d : ¬ X7_faultOf x_signs_number m_sign = -6 := fun h => c (by rw [h]; decide)
    rw [if_neg c, if_neg c, if_neg c, if_neg c, if_neg d, if_neg d, if_neg d, if_neg d]
    exact ⟨hN, hT, hS, hq⟩
theorem eq_tried {x_now_night_start : Nat → Int32} {x_now_night_mass : Nat → Int32} {x_now_night_row : Nat → Int64} {x_now_night_alike : Nat → Int32} {x_now_tries_kept : Nat → Int32} {x_now_tries_ended : Nat → Int32} {x_now_tries_number : Int32} {x_im0_night_start : Nat → Int32} {x_im0_night_mass : Nat → Int32} {x_im0_night_row : Nat → Int64} {x_im0_night_alike : Nat → Int32} {x_im0_tries_kept : Nat → Int32} {x_im0_tries_ended : Nat → Int32} {x_im0_tries_number : Int32} {x_im1_night_start : Nat → Int32} {x_im1_night_mass : Nat → Int32} {x_im1_night_row : Nat → Int64} {x_im1_night_alike : Nat → Int32} {x_im1_tries_kept : Nat → Int32} {x_im1_tries_ended : Nat → Int32} {x_im1_tries_number : Int32} {x_taken : Nat → Int32} {x_signs_number : Int32} {x_signs_codes : Nat → Int32} {m_start : Nat → Int32} {m_mass : Nat → Int32} {m_rows : Nat → Int32} {m_told : Nat → Int32} {m_kept : Nat → Int32} {m_ended : Nat → Int32} {m_many : Int32} {m_image : Nat → Int32} {m_isKept : Nat → Int32} {m_signs : Int32} {m_sign : Nat → Int32} (hR : Rl x_now_night_start x_now_night_mass x_now_night_row x_now_night_alike x_now_tries_kept x_now_tries_ended x_now_tries_number x_im0_night_start x_im0_night_mass x_im0_night_row x_im0_night_alike x_im0_tries_kept x_im0_tries_ended x_im0_tries_number x_im1_night_start x_im1_night_mass x_im1_night_row x_im1_night_alike x_im1_tries_kept x_im1_tries_ended x_im1_tries_number x_taken x_signs_number x_signs_codes m_start m_mass m_rows m_told m_kept m_ended m_many m_image m_isKept m_signs m_sign) (p0 : Int32) (p1 : Int32) : (X6_tried x_now_tries_number x_now_tries_kept x_now_tries_ended p0 p1) = (X7_tried m_many m_kept m_ended p0 p1) := by
  obtain ⟨-, hT, -⟩ := hR
  obtain ⟨e, hb, hk⟩ := hT
  subst e
  unfold X6_tried X7_tried
  show (if X6_within p0 0 (x_now_tries_number - 1) = 0 then _ else _) = (if X6_within p0 0 (x_now_tries_number - 1) = 0 then _ else _)
  by_cases a : X6_within p0 0 (x_now_tries_number - 1) = 0
  · rw [if_pos a, if_pos a]
  · rw [if_neg a, if_neg a]
    have w := w_b a
    have z : (0 : Int32).toInt = 0 := rfl
    have z1 : (1 : Int32).toInt = 1 := rfl
    rw [a_sub (by rw [z1]; omega) (by rw [z1]; omega), z1, z] at w
    have h := hk p0.toNatClampNeg (by
      have q := tn_e (x := p0) w.1
      have r := tn_e (x := x_now_tries_number) hb.1
      omega)
    rw [h.1, h.2.1]
theorem sd_in {k e k' e' : Nat → Int32} {c w : Int32} {N : Nat} (h : ∀ i, i < N → k i = k' i ∧ e i = e' i) {j : Nat} (hj : j < N) {x : Int32} : ∀ n, n ≤ j → X5_pairsBy_L24 k e ((1 : Int32) <<< (c &&& 31)) (X6_said_m43_s2 w) j x n = X7_said_L38 k' e' c w j x n
  | 0, _ => rfl
  | n + 1, hn => by
    have i := sd_in (c := c) (w := w) h hj (x := x) n (by omega)
    have a := h j hj
    have b := h n (by omega)
    have u : X5_pairsBy_L24 k e ((1 : Int32) <<< (c &&& 31)) (X6_said_m43_s2 w) j x (n + 1) = (if ((k j) ^^^ (k n)) = ((1 : Int32) <<< (c &&& 31)) then (if (X5_pairsBy_m72_s0 e j n) = (X6_said_m43_s2 w) then ((X5_pairsBy_L24 k e ((1 : Int32) <<< (c &&& 31)) (X6_said_m43_s2 w) j x n) + 1) else (X5_pairsBy_L24 k e ((1 : Int32) <<< (c &&& 31)) (X6_said_m43_s2 w) j x n)) else (X5_pairsBy_L24 k e ((1 : Int32) <<< (c &&& 31)) (X6_said_m43_s2 w) j x n)) := rfl
    have v : X7_said_L38 k' e' c w j x (n + 1) = X7_said_L38 k' e' c w j x n + X7_said_m111_s1 k' e' c w j n := rfl
    rw [u, v, i]
    unfold X7_said_m111_s1
    rw [a.1, b.1]
    have g : X5_pairsBy_m72_s0 e j n = X7_said_m67_s0 e' j n := by unfold X5_pairsBy_m72_s0 X7_said_m67_s0; rw [a.2, b.2]
    rw [g]
    by_cases c1 : (k' j ^^^ k' n) = ((1 : Int32) <<< (c &&& 31))
    · rw [if_pos c1, if_pos c1]
      by_cases c2 : X7_said_m67_s0 e' j n = X6_said_m43_s2 w
      · rw [if_pos c2, if_pos (show X7_said_m67_s0 e' j n = X7_said_m103_s2 w from c2)]
      · rw [if_neg c2, if_neg (show ¬ X7_said_m67_s0 e' j n = X7_said_m103_s2 w from c2), Int32.add_zero]
    · rw [if_neg c1, if_neg c1, Int32.add_zero]
theorem sd_out {k e k' e' : Nat → Int32} {c w : Int32} {N : Nat} (h : ∀ i, i < N → k i = k' i ∧ e i = e' i) : ∀ n, n ≤ N → X5_pairsBy_L5 k e ((1 : Int32) <<< (c &&& 31)) (X6_said_m43_s2 w) n = X7_said_L26 k' e' c w n
  | 0, _ => rfl
  | n + 1, hn => by
    have i := sd_out (c := c) (w := w) h n (by omega)
    have u : X5_pairsBy_L5 k e ((1 : Int32) <<< (c &&& 31)) (X6_said_m43_s2 w) (n + 1) = X5_pairsBy_L24 k e ((1 : Int32) <<< (c &&& 31)) (X6_said_m43_s2 w) n (X5_pairsBy_L5 k e ((1 : Int32) <<< (c &&& 31)) (X6_said_m43_s2 w) n) n := rfl
    rw [u, i]
    exact sd_in h (by omega) n (by omega)
theorem eq_said {x_now_night_start : Nat → Int32} {x_now_night_mass : Nat → Int32} {x_now_night_row : Nat → Int64} {x_now_night_alike : Nat → Int32} {x_now_tries_kept : Nat → Int32} {x_now_tries_ended : Nat → Int32} {x_now_tries_number : Int32} {x_im0_night_start : Nat → Int32} {x_im0_night_mass : Nat → Int32} {x_im0_night_row : Nat → Int64} {x_im0_night_alike : Nat → Int32} {x_im0_tries_kept : Nat → Int32} {x_im0_tries_ended : Nat → Int32} {x_im0_tries_number : Int32} {x_im1_night_start : Nat → Int32} {x_im1_night_mass : Nat → Int32} {x_im1_night_row : Nat → Int64} {x_im1_night_alike : Nat → Int32} {x_im1_tries_kept : Nat → Int32} {x_im1_tries_ended : Nat → Int32} {x_im1_tries_number : Int32} {x_taken : Nat → Int32} {x_signs_number : Int32} {x_signs_codes : Nat → Int32} {m_start : Nat → Int32} {m_mass : Nat → Int32} {m_rows : Nat → Int32} {m_told : Nat → Int32} {m_kept : Nat → Int32} {m_ended : Nat → Int32} {m_many : Int32} {m_image : Nat → Int32} {m_isKept : Nat → Int32} {m_signs : Int32} {m_sign : Nat → Int32} (hR : Rl x_now_night_start x_now_night_mass x_now_night_row x_now_night_alike x_now_tries_kept x_now_tries_ended x_now_tries_number x_im0_night_start x_im0_night_mass x_im0_night_row x_im0_night_alike x_im0_tries_kept x_im0_tries_ended x_im0_tries_number x_im1_night_start x_im1_night_mass x_im1_night_row x_im1_night_alike x_im1_tries_kept x_im1_tries_ended x_im1_tries_number x_taken x_signs_number x_signs_codes m_start m_mass m_rows m_told m_kept m_ended m_many m_image m_isKept m_signs m_sign) (p0 : Int32) (p1 : Int32) : (X6_said x_now_tries_number x_now_tries_kept x_now_tries_ended p0 p1) = (X7_said m_many m_kept m_ended p0 p1) := by
  obtain ⟨-, hT, -⟩ := hR
  obtain ⟨e, hb, hk⟩ := hT
  subst e
  unfold X6_said X7_said X5_pairsBy
  rw [in_e, two_e]
  by_cases a : X6_within p0 0 3 = 0
  · rw [if_pos a, if_pos a]
  · rw [if_neg a, if_neg a]
    by_cases b : X6_within p1 0 1 = 0
    · rw [if_pos b, if_pos b]
    · rw [if_neg b, if_neg b]
      exact sd_out (fun i hi => ⟨(hk i hi).1, (hk i hi).2.1⟩) _ (Nat.le_refl _)
theorem xr0 (a b : Int32) : a ^^^ b = 0 ↔ a = b := Int32.xor_eq_zero_iff
theorem bc16 : ∀ a b : Fin 16, (if J6_bitCount_0f7a4 (nI a.val ^^^ nI b.val) = (1 : Int32) then (1 : Int32) else 0) = (if (nI a.val ^^^ nI b.val) = (1 : Int32) then (1 : Int32) else (if (nI a.val ^^^ nI b.val) = (2 : Int32) then (1 : Int32) else (if (nI a.val ^^^ nI b.val) = (4 : Int32) then (1 : Int32) else (if (nI a.val ^^^ nI b.val) = (8 : Int32) then (1 : Int32) else (0 : Int32))))) := by decide +kernel
theorem in16 {x : Int32} (h0 : 0 ≤ x.toInt) (h1 : x.toInt ≤ 15) : ∃ j : Nat, j < 16 ∧ x = nI j := by
  have z : (0 : Int32).toInt = 0 := rfl
  have o : (15 : Int32).toInt = 15 := rfl
  obtain ⟨j, hj, e⟩ := nI_of2 (x := x) (M := 15) (n := 15) rfl (by rw [lt32]; omega) (by rw [le32]; omega)
  exact ⟨j, by omega, e⟩
theorem ak_has {n p : Int32} {k : Nat → Int32} (h0 : 0 ≤ n.toInt) (h1 : n.toInt ≤ 20) : ∀ f j, j ≤ n.toNatClampNeg → n.toNatClampNeg < j + f → (X5_has_L2 n k p f j = 0 ↔ ∀ i, j ≤ i → i < n.toNatClampNeg → ¬ k i = p)
  | 0, j => fun a b => absurd b (by omega)
  | f + 1, j => fun a b => by
    have t := tn_e (x := n) h0
    rw [X5_has_L2]
    have zj : (nI j).toInt = (j : Int) := nI_t (by omega)
    have z20 : (20 : Int32).toInt = 20 := rfl
    by_cases c : n ≤ nI j
    · rw [if_pos c]
      rw [le32, zj] at c
      exact ⟨fun _ i hi hn => absurd hn (by omega), fun _ => rfl⟩
    · rw [if_neg c]
      rw [le32, zj] at c
      rw [if_neg (by rw [le32, zj, z20]; omega : ¬ (20 : Int32) ≤ nI j)]
      by_cases d : k j = p
      · rw [if_pos d]
        exact ⟨fun q => absurd q (by decide), fun q => absurd d (q j (Nat.le_refl _) (by omega))⟩
      · rw [if_neg d, ak_has h0 h1 f (j + 1) (by omega) (by omega)]
        refine ⟨fun q i hi hn => ?_, fun q i hi hn => q i (by omega) hn⟩
        by_cases e : i = j
        · rw [e]; exact d
        · exact q i (by omega) hn
theorem ak_22 {k : Nat → Int32} {j : Nat} : ∀ m, ((X7_ask_L22 k j m).1 = 0 ↔ ∀ i, i < m → ¬ k i = nI j)
  | 0 => ⟨fun _ i hi => absurd hi (by omega), fun _ => rfl⟩
  | m + 1 => by
    have q := ak_22 (k := k) (j := j) m
    have u : (X7_ask_L22 k j (m + 1)).1 = X7_ask_m57_s0 k j m (X7_ask_L22 k j m).1 := rfl
    rw [u]
    unfold X7_ask_m57_s0
    by_cases c : (X7_ask_L22 k j m).1 = 0
    · rw [if_pos c]
      by_cases d : (k m ^^^ nI j) = 0
      · rw [if_pos d]
        rw [xr0] at d
        exact ⟨fun r => absurd r (by decide), fun r => absurd d (r m (by omega))⟩
      · rw [if_neg d]
        rw [xr0] at d
        refine ⟨fun _ i hi => ?_, fun _ => rfl⟩
        by_cases e : i = m
        · rw [e]; exact d
        · exact q.mp c i (by omega)
    · rw [if_neg c]
      exact ⟨fun r => absurd r (by decide), fun r => absurd (q.mpr (fun i hi => r i (by omega))) c⟩
theorem ak_nb {k k' : Nat → Int32} {j : Nat} (hj : j < 16) {N : Nat} (h : ∀ i, i < N → k i = k' i ∧ 0 ≤ (k i).toInt ∧ (k i).toInt ≤ 15) (hN : N ≤ 20) : ∀ m, m ≤ N → X5_neighbours_L4 k (nI j) m = (X7_ask_L22 k' j m).2 ∧ 0 ≤ (X7_ask_L22 k' j m).2.toInt ∧ (X7_ask_L22 k' j m).2.toInt ≤ m
  | 0, _ => ⟨rfl, (by decide : (0 : Int) ≤ (0 : Int32).toInt), (by decide : (0 : Int32).toInt ≤ (0 : Nat))⟩
  | m + 1, hm => by
    obtain ⟨a, b, c⟩ := ak_nb hj h hN m (by omega)
    have u : X5_neighbours_L4 k (nI j) (m + 1) = (if (J6_bitCount_0f7a4 ((k m) ^^^ nI j)) = (1 : Int32) then ((X5_neighbours_L4 k (nI j) m) + 1) else (X5_neighbours_L4 k (nI j) m)) := rfl
    have v : (X7_ask_L22 k' j (m + 1)).2 = (X7_ask_L22 k' j m).2 + X7_ask_m91_s1 k' j m := rfl
    rw [u, v, a]
    obtain ⟨e, g0, g1⟩ := h m (by omega)
    obtain ⟨i, hi, ei⟩ := in16 g0 g1
    have s : X7_ask_m91_s1 k' j m = (if J6_bitCount_0f7a4 (k m ^^^ nI j) = (1 : Int32) then (1 : Int32) else 0) := by
      unfold X7_ask_m91_s1
      rw [← e, ei]
      exact (bc16 ⟨i, hi⟩ ⟨j, hj⟩).symm
    rw [s]
    have z1 : (1 : Int32).toInt = 1 := rfl
    by_cases d : J6_bitCount_0f7a4 (k m ^^^ nI j) = (1 : Int32)
    · rw [if_pos d, if_pos d]
      have s2 : ((X7_ask_L22 k' j m).2 + 1).toInt = (X7_ask_L22 k' j m).2.toInt + 1 := by rw [a_add (by rw [z1]; omega) (by rw [z1]; omega), z1]
      exact ⟨rfl, by rw [s2]; omega, by rw [s2]; omega⟩
    · rw [if_neg d, if_neg d, Int32.add_zero]
      exact ⟨rfl, b, by omega⟩
theorem ak_out {n : Int32} {k k' : Nat → Int32} (h0 : 0 ≤ n.toInt) (h1 : n.toInt ≤ 20) (h : ∀ i, i < n.toNatClampNeg → k i = k' i ∧ 0 ≤ (k i).toInt ∧ (k i).toInt ≤ 15) : ∀ m, m ≤ 16 → ((X6_ask_L7 n k m = (-6, -1) ∧ X7_ask_L7 n k' m = (-6, 0)) ∨ (X6_ask_L7 n k m = X7_ask_L7 n k' m ∧ ¬ (X7_ask_L7 n k' m).1 < 0))
  | 0, _ => Or.inl ⟨rfl, rfl⟩
  | m + 1, hm => by
    have q := ak_out h0 h1 h m (by omega)
    have t := tn_e (x := n) h0
    obtain ⟨nb, nb0, nb1⟩ := ak_nb (j := m) (by omega) h (by omega) n.toNatClampNeg (Nat.le_refl _)
    have hh : X5_has n k (nI m) = 0 ↔ (X7_ask_L22 k' m n.toNatClampNeg).1 = 0 := by
      rw [ak_22]
      unfold X5_has
      rw [ak_has h0 h1 22 0 (by omega) (by omega)]
      exact ⟨fun r i hi => by rw [← (h i hi).1]; exact r i (by omega) hi, fun r i _ hi => by rw [(h i hi).1]; exact r i hi⟩
    have u : X6_ask_L7 n k (m + 1) = (if (X5_has n k (nI m)) = 0 then (if (X5_neighbours n k (nI m)) ≤ (X6_ask_L7 n k m).2 then ((X6_ask_L7 n k m).1, (X6_ask_L7 n k m).2) else (nI m, (X5_neighbours n k (nI m)))) else ((X6_ask_L7 n k m).1, (X6_ask_L7 n k m).2)) := rfl
    have v : X7_ask_L7 n k' (m + 1) = (if (X7_ask_L22 k' m n.toNatClampNeg).1 = 0 then (if (X7_ask_L7 n k' m).1 < 0 then (nI m, (X7_ask_L22 k' m n.toNatClampNeg).2) else (if (X7_ask_L22 k' m n.toNatClampNeg).2 ≤ (X7_ask_L7 n k' m).2 then ((X7_ask_L7 n k' m).1, (X7_ask_L7 n k' m).2) else (nI m, (X7_ask_L22 k' m n.toNatClampNeg).2))) else ((X7_ask_L7 n k' m).1, (X7_ask_L7 n k' m).2)) := rfl
    rw [u, v]
    have w : X5_neighbours n k (nI m) = (X7_ask_L22 k' m n.toNatClampNeg).2 := nb
    rw [w]
    generalize (X7_ask_L22 k' m n.toNatClampNeg).2 = y at *
    have zm : ¬ nI m < 0 := by
      have : (nI m).toInt = (m : Int) := nI_t (by omega)
      have z : (0 : Int32).toInt = 0 := rfl
      rw [lt32]; omega
    by_cases c : X5_has n k (nI m) = 0
    · rw [if_pos c, if_pos (hh.mp c)]
      rcases q with ⟨q1, q2⟩ | ⟨q1, q2⟩
      · rw [q1, q2]
        have zz : ((-1 : Int32)).toInt = -1 := rfl
        rw [if_neg (show ¬ y ≤ ((-6, -1) : Int32 × Int32).2 by show ¬ y ≤ (-1 : Int32); rw [le32, zz]; omega), if_pos (show ((-6, 0) : Int32 × Int32).1 < 0 by decide)]
        exact Or.inr ⟨rfl, zm⟩
      · rw [q1, if_neg q2]
        by_cases d : y ≤ (X7_ask_L7 n k' m).2
        · rw [if_pos d]; exact Or.inr ⟨rfl, q2⟩
        · rw [if_neg d]; exact Or.inr ⟨rfl, zm⟩
    · rw [if_neg c, if_neg (fun r => c (hh.mpr r))]
      exact q
theorem eq_ask {x_now_night_start : Nat → Int32} {x_now_night_mass : Nat → Int32} {x_now_night_row : Nat → Int64} {x_now_night_alike : Nat → Int32} {x_now_tries_kept : Nat → Int32} {x_now_tries_ended : Nat → Int32} {x_now_tries_number : Int32} {x_im0_night_start : Nat → Int32} {x_im0_night_mass : Nat → Int32} {x_im0_night_row : Nat → Int64} {x_im0_night_alike : Nat → Int32} {x_im0_tries_kept : Nat → Int32} {x_im0_tries_ended : Nat → Int32} {x_im0_tries_number : Int32} {x_im1_night_start : Nat → Int32} {x_im1_night_mass : Nat → Int32} {x_im1_night_row : Nat → Int64} {x_im1_night_alike : Nat → Int32} {x_im1_tries_kept : Nat → Int32} {x_im1_tries_ended : Nat → Int32} {x_im1_tries_number : Int32} {x_taken : Nat → Int32} {x_signs_number : Int32} {x_signs_codes : Nat → Int32} {m_start : Nat → Int32} {m_mass : Nat → Int32} {m_rows : Nat → Int32} {m_told : Nat → Int32} {m_kept : Nat → Int32} {m_ended : Nat → Int32} {m_many : Int32} {m_image : Nat → Int32} {m_isKept : Nat → Int32} {m_signs : Int32} {m_sign : Nat → Int32} (hR : Rl x_now_night_start x_now_night_mass x_now_night_row x_now_night_alike x_now_tries_kept x_now_tries_ended x_now_tries_number x_im0_night_start x_im0_night_mass x_im0_night_row x_im0_night_alike x_im0_tries_kept x_im0_tries_ended x_im0_tries_number x_im1_night_start x_im1_night_mass x_im1_night_row x_im1_night_alike x_im1_tries_kept x_im1_tries_ended x_im1_tries_number x_taken x_signs_number x_signs_codes m_start m_mass m_rows m_told m_kept m_ended m_many m_image m_isKept m_signs m_sign) : (X6_ask x_now_tries_number x_now_tries_kept) = (X7_ask m_many m_kept) := by
  obtain ⟨-, hT, -⟩ := hR
  obtain ⟨e, hb, hk⟩ := hT
  subst e
  unfold X6_ask X7_ask
  rcases ak_out hb.1 hb.2 (fun i hi => ⟨(hk i hi).1, (hk i hi).2.2.1, (hk i hi).2.2.2⟩) 16 (Nat.le_refl _) with ⟨a, b⟩ | ⟨a, -⟩
  · rw [a, b]
  · rw [a]
theorem td_l {r of ti : Nat → Int32} {p : Int32} {F : Nat → Int32} (hd : ∀ k : Nat, k < 20 → 0 ≤ (r k).toInt ∧ (r k).toInt ≤ 9) (hp : p.toNatClampNeg ≤ 1) (ho : ∀ k, k < 10 → of k = r (10 * p.toNatClampNeg + k)) (ht : ∀ k, k < 10 → 0 < (r (10 * p.toNatClampNeg + k)).toInt → ti k = F k) : ∀ (n j : Nat) (x : Int32), (0 ≤ x.toInt ∧ x.toInt < fy_sum r (10 * p.toNatClampNeg + j) (10 - j)) → 10 < j + n → X1_timeDrawn_L21 of ti n j x = F (X7_drawn_L30 r p n j x).1 := by
  intro n
  induction n with
  | zero => intro j x h hn; have := fy_rlt h; omega
  | succ n ih =>
    intro j x h hn
    have hj := fy_rlt h
    have zj : (nI j).toInt = (j : Int) := nI_t (by omega)
    have z10 : (10 : Int32).toInt = 10 := rfl
    rw [X1_timeDrawn_L21, X7_drawn_L30, if_neg (by rw [le32, zj, z10]; omega : ¬ (10 : Int32) ≤ nI j), ho j hj]
    by_cases c : x < r (10 * p.toNatClampNeg + j)
    · rw [if_pos c, if_neg (Int32.not_le.mpr c)]
      rw [lt32] at c
      exact ht j hj (by omega)
    · rw [if_neg c, if_pos (Int32.not_lt.mp c)]
      exact ih (j + 1) _ (dr_back (hd _ (by omega)) h c) (by omega)
section
variable {st ma : Nat → Int32} {ro : Nat → Int64} {al st' ma' ro' to : Nat → Int32}
theorem td_e (hN : RN st ma ro al st' ma' ro' to) {p s : Int32} (hp : vp_in p 2) (hs : 0 ≤ s.toInt ∧ s.toInt ≤ 65536) (v ti : Nat → Int32) {F : Int32 → Int32} (ht : ∀ k, k < 10 → 0 < (ro' (10 * p.toNatClampNeg + k)).toInt → ti k = F (nI k)) : X1_timeDrawn (X1_readRow_o_together v (ro p.toNatClampNeg)) (X1_readRow_o_often v (ro p.toNatClampNeg)) ti (X6_nextDraw s) = F (X7_drawn s ro' p) := by
  have hq := fy_lt hp
  have S := rn_s hN (p := p) (by omega)
  have z1 : (1 : Int32).toInt = 1 := rfl
  unfold X1_timeDrawn
  rw [tg_e hN hq v, if_pos (by rw [le32, z1]; omega : (1 : Int32) ≤ X7_sumOf ro' p)]
  obtain ⟨w0, w1⟩ := vp_in_iff.mp hp
  have z0 : (0 : Int32).toInt = 0 := rfl
  have E := dr_ent (r := ro') (p := p) (s := s) (rn_d hN) (by rw [le32, z0]; exact w0) (by rw [le32, z1]; omega) S.1 hs
  exact td_l (F := fun k => F (nI k)) (rn_d hN) (by omega) (fun k hk => of_e hN hq v hk) ht 11 0 _ E (by decide)
theorem dw_c (hN : RN st ma ro al st' ma' ro' to) (mg : Int32) (q1 q2 q3 q4 q5 q6 q7 q8 q9 q10 q11 q12 q13 q14 q15 : Int32) (rc rl rr ho ht co ct : Nat → Int32) (y1 y2 y3 : Int64) (y4 y5 y6 : Int32) (y7 y8 : Nat → Int64) (y9 y10 : Nat → Int32) {s : Int32} (hs : 0 ≤ s.toInt ∧ s.toInt ≤ 65536) : X6_draw_c118_r st ma ro al q1 q2 q3 q4 q5 q6 q7 q8 q9 q10 q11 q12 q13 q14 q15 rc rl rr ho ht co ct mg s = X7_draw_c95_r y1 y2 y3 y4 y5 y6 st' ma' to y7 y8 y9 y10 ro' mg s := by
  have hs2 := dr_sd hs
  have a : X6_draw_c91_r st ma ro al q1 q2 q3 q4 q5 q6 q7 q8 q9 q10 q11 q12 q13 q14 q15 rc rl rr ho ht mg s = TT st' ma' to mg 0 (X7_drawn s ro' 0) :=
    td_e hN (p := 0) fx_v0 hs ho _ (F := TT st' ma' to mg 0) (fun k hk h => nd_t hN (p := 0) fx_v0 mg q1 q2 q3 q4 q5 q6 q7 q8 q9 q10 q11 q12 q13 q14 q15 rc rl rr ho ht 10 (by decide) k hk h)
  have b : X6_draw_c109_r st ma ro al q1 q2 q3 q4 q5 q6 q7 q8 q9 q10 q11 q12 q13 q14 q15 rc rl rr ho ht co ct mg s = TT st' ma' to mg 1 (X7_drawn (X7_drawn_o_seed s) ro' 1) :=
    td_e hN (p := 1) fx_v1 hs2 co _ (F := TT st' ma' to mg 1) (fun k hk h => nd_t hN (p := 1) fx_v1 mg _ _ _ _ _ _ _ _ _ _ _ _ _ _ _ _ _ _ co ct 10 (by decide) k hk h)
  obtain ⟨k0, h0, e0⟩ := dr_n (s := s) (r := ro') (p := 0) (rn_d hN) (by decide) (by decide) (rn_s hN (p := 0) (by decide)).1 hs
  obtain ⟨k1, h1, e1⟩ := dr_n (s := X7_drawn_o_seed s) (r := ro') (p := 1) (rn_d hN) (by decide) (by decide) (rn_s hN (p := 1) (by decide)).1 hs2
  unfold X6_draw_c118_r X7_draw_c95_r
  rw [a, b, e0, e1]
  have t1 : ((10 : Int32) + nI k1).toNatClampNeg = 10 + k1 := by
    have : (10 : Int32) + nI k1 = nI (10 + k1) := (fx_addN (x := 10) (y := nI k1) (a := 10) (b := k1) rfl rfl)
    rw [this, nI_clamp (by omega)]
  rw [nI_clamp (by omega), t1, (ly_t hN mg y1 y2 y3 y4 y5 y6 y7 y8 y9 y10 h0).1, (ly_t hN mg y1 y2 y3 y4 y5 y6 y7 y8 y9 y10 h1).2]
  rfl
theorem dw_l (hN : RN st ma ro al st' ma' ro' to) (mg fi : Int32) (q1 q2 q3 q4 q5 q6 q7 q8 q9 q10 q11 q12 q13 q14 q15 : Int32) (rc rl rr ho ht co ct : Nat → Int32) (y1 y2 y3 : Int64) (y4 y5 y6 : Int32) (y7 y8 : Nat → Int64) (y9 y10 : Nat → Int32) {s : Int32} (hs : 0 ≤ s.toInt ∧ s.toInt ≤ 65536) : ∀ n, X6_draw_L72 st ma ro al q1 q2 q3 q4 q5 q6 q7 q8 q9 q10 q11 q12 q13 q14 q15 rc rl rr ho ht co ct s mg fi n = ((X7_draw_L56 y1 y2 y3 y4 y5 y6 st' ma' to y7 y8 y9 y10 ro' s mg fi n).2, (X7_draw_L56 y1 y2 y3 y4 y5 y6 st' ma' to y7 y8 y9 y10 ro' s mg fi n).1) ∧ 0 ≤ (X7_draw_L56 y1 y2 y3 y4 y5 y6 st' ma' to y7 y8 y9 y10 ro' s mg fi n).2.toInt ∧ (X7_draw_L56 y1 y2 y3 y4 y5 y6 st' ma' to y7 y8 y9 y10 ro' s mg fi n).2.toInt ≤ 65536
  | 0 => ⟨rfl, hs⟩
  | n + 1 => by
    obtain ⟨a, b⟩ := dw_l hN mg fi q1 q2 q3 q4 q5 q6 q7 q8 q9 q10 q11 q12 q13 q14 q15 rc rl rr ho ht co ct y1 y2 y3 y4 y5 y6 y7 y8 y9 y10 hs n
    have c := dw_c hN mg q1 q2 q3 q4 q5 q6 q7 q8 q9 q10 q11 q12 q13 q14 q15 rc rl rr ho ht co ct y1 y2 y3 y4 y5 y6 y7 y8 y9 y10 b
    refine ⟨?_, dr_sd (dr_sd b)⟩
    have u : X7_draw_L56 y1 y2 y3 y4 y5 y6 st' ma' to y7 y8 y9 y10 ro' s mg fi (n + 1) = (((X7_draw_L56 y1 y2 y3 y4 y5 y6 st' ma' to y7 y8 y9 y10 ro' s mg fi n).1 + (X7_draw_m108_s1 y1 y2 y3 y4 y5 y6 st' ma' to y7 y8 y9 y10 ro' mg fi (X7_draw_L56 y1 y2 y3 y4 y5 y6 st' ma' to y7 y8 y9 y10 ro' s mg fi n).2)), (X7_drawn_o_seed (X7_drawn_o_seed (X7_draw_L56 y1 y2 y3 y4 y5 y6 st' ma' to y7 y8 y9 y10 ro' s mg fi n).2))) := rfl
    rw [u, X6_draw_L72, a]
    unfold X7_draw_m108_s1
    show (if X6_draw_c118_r st ma ro al q1 q2 q3 q4 q5 q6 q7 q8 q9 q10 q11 q12 q13 q14 q15 rc rl rr ho ht co ct mg (X7_draw_L56 y1 y2 y3 y4 y5 y6 st' ma' to y7 y8 y9 y10 ro' s mg fi n).2 = fi then _ else _) = _
    rw [c]
    by_cases d : X7_draw_c95_r y1 y2 y3 y4 y5 y6 st' ma' to y7 y8 y9 y10 ro' mg (X7_draw_L56 y1 y2 y3 y4 y5 y6 st' ma' to y7 y8 y9 y10 ro' s mg fi n).2 = fi
    · rw [if_pos d, if_pos d]; rfl
    · rw [if_neg d, if_neg d, Int32.add_zero]; rfl
end
theorem eq_draw {x_now_night_start : Nat → Int32} {x_now_night_mass : Nat → Int32} {x_now_night_row : Nat → Int64} {x_now_night_alike : Nat → Int32} {x_now_tries_kept : Nat → Int32} {x_now_tries_ended : Nat → Int32} {x_now_tries_number : Int32} {x_im0_night_start : Nat → Int32} {x_im0_night_mass : Nat → Int32} {x_im0_night_row : Nat → Int64} {x_im0_night_alike : Nat → Int32} {x_im0_tries_kept : Nat → Int32} {x_im0_tries_ended : Nat → Int32} {x_im0_tries_number : Int32} {x_im1_night_start : Nat → Int32} {x_im1_night_mass : Nat → Int32} {x_im1_night_row : Nat → Int64} {x_im1_night_alike : Nat → Int32} {x_im1_tries_kept : Nat → Int32} {x_im1_tries_ended : Nat → Int32} {x_im1_tries_number : Int32} {x_taken : Nat → Int32} {x_signs_number : Int32} {x_signs_codes : Nat → Int32} {m_start : Nat → Int32} {m_mass : Nat → Int32} {m_rows : Nat → Int32} {m_told : Nat → Int32} {m_kept : Nat → Int32} {m_ended : Nat → Int32} {m_many : Int32} {m_image : Nat → Int32} {m_isKept : Nat → Int32} {m_signs : Int32} {m_sign : Nat → Int32} (hR : Rl x_now_night_start x_now_night_mass x_now_night_row x_now_night_alike x_now_tries_kept x_now_tries_ended x_now_tries_number x_im0_night_start x_im0_night_mass x_im0_night_row x_im0_night_alike x_im0_tries_kept x_im0_tries_ended x_im0_tries_number x_im1_night_start x_im1_night_mass x_im1_night_row x_im1_night_alike x_im1_tries_kept x_im1_tries_ended x_im1_tries_number x_taken x_signs_number x_signs_codes m_start m_mass m_rows m_told m_kept m_ended m_many m_image m_isKept m_signs m_sign) (x_run_rateOnRime : Int32) (x_run_air : Int32) (x_run_steam : Int32) (x_run_melt : Int32) (x_run_needleAt : Int32) (x_run_enoughFrost : Int32) (x_run_causes : Int32) (x_run_glassCell : Int32) (x_run_left : Int32) (x_run_rime : Int32) (x_run_frost : Int32) (x_run_round : Int32) (x_run_begun : Int32) (x_run_reads : Int32) (x_run_last : Int32) (x_run_cells : Nat → Int32) (x_run_losses : Nat → Int32) (x_run_rates : Nat → Int32) (x_hotNeedles_often : Nat → Int32) (x_hotNeedles_times : Nat → Int32) (x_coldNeedles_often : Nat → Int32) (x_coldNeedles_times : Nat → Int32) (m_left : Int64) (m_rime : Int64) (m_frost : Int64) (m_began : Int32) (m_last : Int32) (m_rounds : Int32) (m_cell : Nat → Int64) (m_loss : Nat → Int64) (m_read : Nat → Int32) (m_times : Nat → Int32) (p0 : Int32) (p1 : Int32) (p2 : Int32) (p3 : Int32) : (X6_draw x_now_night_start x_now_night_mass x_now_night_row x_now_night_alike x_run_rateOnRime x_run_air x_run_steam x_run_melt x_run_needleAt x_run_enoughFrost x_run_causes x_run_glassCell x_run_left x_run_rime x_run_frost x_run_round x_run_begun x_run_reads x_run_last x_run_cells x_run_losses x_run_rates x_hotNeedles_often x_hotNeedles_times x_coldNeedles_often x_coldNeedles_times p0 p1 p2 p3) = (X7_draw m_left m_rime m_frost m_began m_last m_rounds m_start m_mass m_told m_cell m_loss m_read m_times m_rows p0 p1 p2 p3) := by
  obtain ⟨hN, -⟩ := hR
  unfold X6_draw X7_draw
  show (if X6_within p0 0 9999 = 0 then _ else if X6_within p1 1 300 = 0 then _ else if X6_within p2 0 2 = 0 then _ else if X6_within p3 0 2 = 0 then _ else _) = (if X6_within p0 0 9999 = 0 then _ else if X6_within p1 1 300 = 0 then _ else if X6_within p2 0 2 = 0 then _ else if X6_within p3 0 2 = 0 then _ else _)
  by_cases a : X6_within p0 0 9999 = 0
  · rw [if_pos a, if_pos a]
  · rw [if_neg a, if_neg a]
    by_cases b : X6_within p1 1 300 = 0
    · rw [if_pos b, if_pos b]
    · rw [if_neg b, if_neg b]
      by_cases c : X6_within p2 0 2 = 0
      · rw [if_pos c, if_pos c]
      · rw [if_neg c, if_neg c]
        by_cases d : X6_within p3 0 2 = 0
        · rw [if_pos d, if_pos d]
        · rw [if_neg d, if_neg d]
          rw [(dw_l hN p2 p3 x_run_rateOnRime x_run_air x_run_steam x_run_melt x_run_needleAt x_run_enoughFrost x_run_causes x_run_glassCell x_run_left x_run_rime x_run_frost x_run_round x_run_begun x_run_reads x_run_last x_run_cells x_run_losses x_run_rates x_hotNeedles_often x_hotNeedles_times x_coldNeedles_often x_coldNeedles_times m_left m_rime m_frost m_began m_last m_rounds m_cell m_loss m_read m_times (dr_from (x := p0) a) p1.toNatClampNeg).1]
theorem eq_image {x_now_night_start : Nat → Int32} {x_now_night_mass : Nat → Int32} {x_now_night_row : Nat → Int64} {x_now_night_alike : Nat → Int32} {x_now_tries_kept : Nat → Int32} {x_now_tries_ended : Nat → Int32} {x_now_tries_number : Int32} {x_im0_night_start : Nat → Int32} {x_im0_night_mass : Nat → Int32} {x_im0_night_row : Nat → Int64} {x_im0_night_alike : Nat → Int32} {x_im0_tries_kept : Nat → Int32} {x_im0_tries_ended : Nat → Int32} {x_im0_tries_number : Int32} {x_im1_night_start : Nat → Int32} {x_im1_night_mass : Nat → Int32} {x_im1_night_row : Nat → Int64} {x_im1_night_alike : Nat → Int32} {x_im1_tries_kept : Nat → Int32} {x_im1_tries_ended : Nat → Int32} {x_im1_tries_number : Int32} {x_taken : Nat → Int32} {x_signs_number : Int32} {x_signs_codes : Nat → Int32} {m_start : Nat → Int32} {m_mass : Nat → Int32} {m_rows : Nat → Int32} {m_told : Nat → Int32} {m_kept : Nat → Int32} {m_ended : Nat → Int32} {m_many : Int32} {m_image : Nat → Int32} {m_isKept : Nat → Int32} {m_signs : Int32} {m_sign : Nat → Int32} (hR : Rl x_now_night_start x_now_night_mass x_now_night_row x_now_night_alike x_now_tries_kept x_now_tries_ended x_now_tries_number x_im0_night_start x_im0_night_mass x_im0_night_row x_im0_night_alike x_im0_tries_kept x_im0_tries_ended x_im0_tries_number x_im1_night_start x_im1_night_mass x_im1_night_row x_im1_night_alike x_im1_tries_kept x_im1_tries_ended x_im1_tries_number x_taken x_signs_number x_signs_codes m_start m_mass m_rows m_told m_kept m_ended m_many m_image m_isKept m_signs m_sign) (p0 : Int32) : (X6_image p0) = (X7_image p0) := by
  unfold X6_image X7_image
  show (if X6_within p0 0 1 = 0 then _ else _) = (if X6_within p0 0 1 = 0 then _ else _)
  rw [ite_self]
theorem rel_image {x_now_night_start : Nat → Int32} {x_now_night_mass : Nat → Int32} {x_now_night_row : Nat → Int64} {x_now_night_alike : Nat → Int32} {x_now_tries_kept : Nat → Int32} {x_now_tries_ended : Nat → Int32} {x_now_tries_number : Int32} {x_im0_night_start : Nat → Int32} {x_im0_night_mass : Nat → Int32} {x_im0_night_row : Nat → Int64} {x_im0_night_alike : Nat → Int32} {x_im0_tries_kept : Nat → Int32} {x_im0_tries_ended : Nat → Int32} {x_im0_tries_number : Int32} {x_im1_night_start : Nat → Int32} {x_im1_night_mass : Nat → Int32} {x_im1_night_row : Nat → Int64} {x_im1_night_alike : Nat → Int32} {x_im1_tries_kept : Nat → Int32} {x_im1_tries_ended : Nat → Int32} {x_im1_tries_number : Int32} {x_taken : Nat → Int32} {x_signs_number : Int32} {x_signs_codes : Nat → Int32} {m_start : Nat → Int32} {m_mass : Nat → Int32} {m_rows : Nat → Int32} {m_told : Nat → Int32} {m_kept : Nat → Int32} {m_ended : Nat → Int32} {m_many : Int32} {m_image : Nat → Int32} {m_isKept : Nat → Int32} {m_signs : Int32} {m_sign : Nat → Int32} (hR : Rl x_now_night_start x_now_night_mass x_now_night_row x_now_night_alike x_now_tries_kept x_now_tries_ended x_now_tries_number x_im0_night_start x_im0_night_mass x_im0_night_row x_im0_night_alike x_im0_tries_kept x_im0_tries_ended x_im0_tries_number x_im1_night_start x_im1_night_mass x_im1_night_row x_im1_night_alike x_im1_tries_kept x_im1_tries_ended x_im1_tries_number x_taken x_signs_number x_signs_codes m_start m_mass m_rows m_told m_kept m_ended m_many m_image m_isKept m_signs m_sign) (p0 : Int32) : Rl x_now_night_start x_now_night_mass x_now_night_row x_now_night_alike x_now_tries_kept x_now_tries_ended x_now_tries_number (X6_image_o_im0_night_start x_now_night_start x_im0_night_start p0) (X6_image_o_im0_night_mass x_now_night_mass x_im0_night_mass p0) (X6_image_o_im0_night_row x_now_night_row x_im0_night_row p0) (X6_image_o_im0_night_alike x_now_night_alike x_im0_night_alike p0) (X6_image_o_im0_tries_kept x_now_tries_kept x_im0_tries_kept p0) (X6_image_o_im0_tries_ended x_now_tries_ended x_im0_tries_ended p0) (X6_image_o_im0_tries_number x_now_tries_number x_im0_tries_number p0) (X6_image_o_im1_night_start x_now_night_start x_im1_night_start p0) (X6_image_o_im1_night_mass x_now_night_mass x_im1_night_mass p0) (X6_image_o_im1_night_row x_now_night_row x_im1_night_row p0) (X6_image_o_im1_night_alike x_now_night_alike x_im1_night_alike p0) (X6_image_o_im1_tries_kept x_now_tries_kept x_im1_tries_kept p0) (X6_image_o_im1_tries_ended x_now_tries_ended x_im1_tries_ended p0) (X6_image_o_im1_tries_number x_now_tries_number x_im1_tries_number p0) (X6_image_o_taken x_taken p0) x_signs_number x_signs_codes m_start m_mass m_rows m_told m_kept m_ended m_many (X7_image_o_image m_many m_start m_mass m_rows m_told m_kept m_ended m_image p0) (X7_image_o_isKept m_isKept p0) m_signs m_sign := by
  obtain ⟨hN, hT, hS, h0, h1⟩ := hR
  unfold X6_image_o_taken X7_image_o_image X7_image_o_isKept X6_image_o_im0_night_start X6_image_o_im0_night_mass X6_image_o_im0_night_row X6_image_o_im0_night_alike X6_image_o_im0_tries_kept X6_image_o_im0_tries_ended X6_image_o_im0_tries_number X6_image_o_im1_night_start X6_image_o_im1_night_mass X6_image_o_im1_night_row X6_image_o_im1_night_alike X6_image_o_im1_tries_kept X6_image_o_im1_tries_ended X6_image_o_im1_tries_number
  rw [two_e]
  by_cases a : X6_within p0 0 1 = 0
  · simp only [if_pos a]; exact ⟨hN, hT, hS, h0, h1⟩
  · simp only [if_neg a]
    rcases w01 a with e | e
    · subst e
      simp only [if_pos]
      exact ⟨hN, hT, hS, ri_img (n := 0) hN hT, ri_img_o (n := 0) (m := 1) (by decide) h1⟩
    · subst e
      simp only [if_neg (by decide : ¬ (1 : Int32) = 0)]
      exact ⟨hN, hT, hS, ri_img_o (n := 1) (m := 0) (by decide) h0, ri_img (n := 1) hN hT⟩
theorem eq_restore {x_now_night_start : Nat → Int32} {x_now_night_mass : Nat → Int32} {x_now_night_row : Nat → Int64} {x_now_night_alike : Nat → Int32} {x_now_tries_kept : Nat → Int32} {x_now_tries_ended : Nat → Int32} {x_now_tries_number : Int32} {x_im0_night_start : Nat → Int32} {x_im0_night_mass : Nat → Int32} {x_im0_night_row : Nat → Int64} {x_im0_night_alike : Nat → Int32} {x_im0_tries_kept : Nat → Int32} {x_im0_tries_ended : Nat → Int32} {x_im0_tries_number : Int32} {x_im1_night_start : Nat → Int32} {x_im1_night_mass : Nat → Int32} {x_im1_night_row : Nat → Int64} {x_im1_night_alike : Nat → Int32} {x_im1_tries_kept : Nat → Int32} {x_im1_tries_ended : Nat → Int32} {x_im1_tries_number : Int32} {x_taken : Nat → Int32} {x_signs_number : Int32} {x_signs_codes : Nat → Int32} {m_start : Nat → Int32} {m_mass : Nat → Int32} {m_rows : Nat → Int32} {m_told : Nat → Int32} {m_kept : Nat → Int32} {m_ended : Nat → Int32} {m_many : Int32} {m_image : Nat → Int32} {m_isKept : Nat → Int32} {m_signs : Int32} {m_sign : Nat → Int32} (hR : Rl x_now_night_start x_now_night_mass x_now_night_row x_now_night_alike x_now_tries_kept x_now_tries_ended x_now_tries_number x_im0_night_start x_im0_night_mass x_im0_night_row x_im0_night_alike x_im0_tries_kept x_im0_tries_ended x_im0_tries_number x_im1_night_start x_im1_night_mass x_im1_night_row x_im1_night_alike x_im1_tries_kept x_im1_tries_ended x_im1_tries_number x_taken x_signs_number x_signs_codes m_start m_mass m_rows m_told m_kept m_ended m_many m_image m_isKept m_signs m_sign) (p0 : Int32) : (X6_restore x_taken p0) = (X7_restore m_isKept p0) := by
  unfold X6_restore X7_restore
  show (if X6_within p0 0 1 = 0 then _ else _) = (if X6_within p0 0 1 = 0 then _ else _)
  by_cases a : X6_within p0 0 1 = 0
  · rw [if_pos a, if_pos a]
  · rw [if_neg a, if_neg a, ite_self]
    have e : x_taken p0.toNatClampNeg = m_isKept p0.toNatClampNeg := by
      have h := fy_lt (fx_w1 a)
      rcases (show p0.toNatClampNeg = 0 ∨ p0.toNatClampNeg = 1 by omega) with q | q
      · rw [q]; exact hR.2.2.2.1.1
      · rw [q]; exact hR.2.2.2.2.1
    rw [e]
theorem rel_restore {x_now_night_start : Nat → Int32} {x_now_night_mass : Nat → Int32} {x_now_night_row : Nat → Int64} {x_now_night_alike : Nat → Int32} {x_now_tries_kept : Nat → Int32} {x_now_tries_ended : Nat → Int32} {x_now_tries_number : Int32} {x_im0_night_start : Nat → Int32} {x_im0_night_mass : Nat → Int32} {x_im0_night_row : Nat → Int64} {x_im0_night_alike : Nat → Int32} {x_im0_tries_kept : Nat → Int32} {x_im0_tries_ended : Nat → Int32} {x_im0_tries_number : Int32} {x_im1_night_start : Nat → Int32} {x_im1_night_mass : Nat → Int32} {x_im1_night_row : Nat → Int64} {x_im1_night_alike : Nat → Int32} {x_im1_tries_kept : Nat → Int32} {x_im1_tries_ended : Nat → Int32} {x_im1_tries_number : Int32} {x_taken : Nat → Int32} {x_signs_number : Int32} {x_signs_codes : Nat → Int32} {m_start : Nat → Int32} {m_mass : Nat → Int32} {m_rows : Nat → Int32} {m_told : Nat → Int32} {m_kept : Nat → Int32} {m_ended : Nat → Int32} {m_many : Int32} {m_image : Nat → Int32} {m_isKept : Nat → Int32} {m_signs : Int32} {m_sign : Nat → Int32} (hR : Rl x_now_night_start x_now_night_mass x_now_night_row x_now_night_alike x_now_tries_kept x_now_tries_ended x_now_tries_number x_im0_night_start x_im0_night_mass x_im0_night_row x_im0_night_alike x_im0_tries_kept x_im0_tries_ended x_im0_tries_number x_im1_night_start x_im1_night_mass x_im1_night_row x_im1_night_alike x_im1_tries_kept x_im1_tries_ended x_im1_tries_number x_taken x_signs_number x_signs_codes m_start m_mass m_rows m_told m_kept m_ended m_many m_image m_isKept m_signs m_sign) (p0 : Int32) : Rl (X6_restore_o_now_night_start x_now_night_start x_taken x_im0_night_start x_im1_night_start p0) (X6_restore_o_now_night_mass x_now_night_mass x_taken x_im0_night_mass x_im1_night_mass p0) (X6_restore_o_now_night_row x_now_night_row x_taken x_im0_night_row x_im1_night_row p0) (X6_restore_o_now_night_alike x_now_night_alike x_taken x_im0_night_alike x_im1_night_alike p0) (X6_restore_o_now_tries_kept x_now_tries_kept x_taken x_im0_tries_kept x_im1_tries_kept p0) (X6_restore_o_now_tries_ended x_now_tries_ended x_taken x_im0_tries_ended x_im1_tries_ended p0) (X6_restore_o_now_tries_number x_now_tries_number x_taken x_im0_tries_number x_im1_tries_number p0) x_im0_night_start x_im0_night_mass x_im0_night_row x_im0_night_alike x_im0_tries_kept x_im0_tries_ended x_im0_tries_number x_im1_night_start x_im1_night_mass x_im1_night_row x_im1_night_alike x_im1_tries_kept x_im1_tries_ended x_im1_tries_number x_taken x_signs_number x_signs_codes (X7_restore_o_start m_start m_mass m_image m_isKept p0) (X7_restore_o_mass m_start m_mass m_image m_isKept p0) (X7_restore_o_rows m_rows m_kept m_ended m_image m_isKept p0) (X7_restore_o_told m_told m_image m_isKept p0) (X7_restore_o_kept m_rows m_kept m_ended m_image m_isKept p0) (X7_restore_o_ended m_rows m_kept m_ended m_image m_isKept p0) (X7_restore_o_many m_many m_image m_isKept p0) m_image m_isKept m_signs m_sign := by
  obtain ⟨hN, hT, hS, h0, h1⟩ := hR
  unfold X6_restore_o_now_night_start X6_restore_o_now_night_mass X6_restore_o_now_night_row X6_restore_o_now_night_alike X6_restore_o_now_tries_kept X6_restore_o_now_tries_ended X6_restore_o_now_tries_number X7_restore_o_start X7_restore_o_mass X7_restore_o_rows X7_restore_o_told X7_restore_o_kept X7_restore_o_ended X7_restore_o_many
  rw [two_e]
  by_cases a : X6_within p0 0 1 = 0
  · simp only [if_pos a]; exact ⟨hN, hT, hS, h0, h1⟩
  · simp only [if_neg a]
    rcases w01 a with e | e
    · subst e
      by_cases b : x_taken (0 : Int32).toNatClampNeg = 0
      · have b' : m_isKept (0 : Int32).toNatClampNeg = 0 := Eq.trans h0.1.symm b
        simp only [if_pos b, if_pos b']
        exact ⟨hN, hT, hS, h0, h1⟩
      · have b' : ¬ m_isKept (0 : Int32).toNatClampNeg = 0 := fun c => b (Eq.trans h0.1 c)
        simp only [if_neg b, if_neg b', if_pos]
        exact ⟨rs_N (n := 0) (h0.2.2 b).1, rs_T (n := 0) (h0.2.2 b).2, hS, h0, h1⟩
    · subst e
      by_cases b : x_taken (1 : Int32).toNatClampNeg = 0
      · have b' : m_isKept (1 : Int32).toNatClampNeg = 0 := Eq.trans h1.1.symm b
        simp only [if_pos b, if_pos b']
        exact ⟨hN, hT, hS, h0, h1⟩
      · have b' : ¬ m_isKept (1 : Int32).toNatClampNeg = 0 := fun c => b (Eq.trans h1.1 c)
        simp only [if_neg b, if_neg b', if_neg (by decide : ¬ (1 : Int32) = 0)]
        exact ⟨rs_N (n := 1) (h1.2.2 b).1, rs_T (n := 1) (h1.2.2 b).2, hS, h0, h1⟩
theorem eq_told {x_now_night_start : Nat → Int32} {x_now_night_mass : Nat → Int32} {x_now_night_row : Nat → Int64} {x_now_night_alike : Nat → Int32} {x_now_tries_kept : Nat → Int32} {x_now_tries_ended : Nat → Int32} {x_now_tries_number : Int32} {x_im0_night_start : Nat → Int32} {x_im0_night_mass : Nat → Int32} {x_im0_night_row : Nat → Int64} {x_im0_night_alike : Nat → Int32} {x_im0_tries_kept : Nat → Int32} {x_im0_tries_ended : Nat → Int32} {x_im0_tries_number : Int32} {x_im1_night_start : Nat → Int32} {x_im1_night_mass : Nat → Int32} {x_im1_night_row : Nat → Int64} {x_im1_night_alike : Nat → Int32} {x_im1_tries_kept : Nat → Int32} {x_im1_tries_ended : Nat → Int32} {x_im1_tries_number : Int32} {x_taken : Nat → Int32} {x_signs_number : Int32} {x_signs_codes : Nat → Int32} {m_start : Nat → Int32} {m_mass : Nat → Int32} {m_rows : Nat → Int32} {m_told : Nat → Int32} {m_kept : Nat → Int32} {m_ended : Nat → Int32} {m_many : Int32} {m_image : Nat → Int32} {m_isKept : Nat → Int32} {m_signs : Int32} {m_sign : Nat → Int32} (hR : Rl x_now_night_start x_now_night_mass x_now_night_row x_now_night_alike x_now_tries_kept x_now_tries_ended x_now_tries_number x_im0_night_start x_im0_night_mass x_im0_night_row x_im0_night_alike x_im0_tries_kept x_im0_tries_ended x_im0_tries_number x_im1_night_start x_im1_night_mass x_im1_night_row x_im1_night_alike x_im1_tries_kept x_im1_tries_ended x_im1_tries_number x_taken x_signs_number x_signs_codes m_start m_mass m_rows m_told m_kept m_ended m_many m_image m_isKept m_signs m_sign) (p0 : Int32) : (X6_told x_now_night_start x_now_night_mass x_now_night_alike x_now_tries_number x_signs_number p0) = (X7_told m_signs m_many m_start m_mass m_told p0) := by
  obtain ⟨hN, hT, hS, -⟩ := hR
  have eT := hT.1
  have eS := hS.1
  subst eT; subst eS
  obtain ⟨h1, h2, h3, -⟩ := hN
  have c0 : (0 : Int32).toInt = 0 := rfl
  have c1 : (1 : Int32).toInt = 1 := rfl
  have c2 : (2 : Int32).toInt = 2 := rfl
  have c3 : (3 : Int32).toInt = 3 := rfl
  have c4 : (4 : Int32).toInt = 4 := rfl
  have c5 : (5 : Int32).toInt = 5 := rfl
  have c10 : (10 : Int32).toInt = 10 := rfl
  have c20 : (20 : Int32).toInt = 20 := rfl
  unfold X6_told X7_told
  show _ = (if X6_within p0 10 20 = 0 then (if p0 = 0 then _ else if p0 = 1 then _ else if X6_within p0 2 3 = 0 then (if X6_within p0 4 5 = 0 then _ else _) else _) else _)
  by_cases d : X6_within p0 10 20 = 0
  · rw [if_pos d, if_pos d]
    by_cases e0 : p0 = 0
    · rw [if_pos e0, if_pos e0]
    · rw [if_neg e0, if_neg e0]
      by_cases e1 : p0 = 1
      · rw [if_pos e1, if_pos e1]
      · rw [if_neg e1, if_neg e1]
        by_cases e2 : X6_within p0 2 3 = 0
        · rw [if_pos e2, if_pos e2]
          by_cases e4 : X6_within p0 4 5 = 0
          · rw [if_pos e4, if_pos e4]
          · rw [if_neg e4, if_neg e4]
            exact (h2 _ (fy_lt (fx_off (A := 4) (B := 5) rfl rfl (by decide) e4 (by decide)))).1
        · rw [if_neg e2, if_neg e2]
          exact (h1 _ (fy_lt (fx_off (A := 2) (B := 3) rfl rfl (by decide) e2 (by decide)))).1
  · have w := w_b d
    have e0 : ¬ p0 = 0 := by rw [eq32, c0]; omega
    have e1 : ¬ p0 = 1 := by rw [eq32, c1]; omega
    have e2 : X6_within p0 2 3 = 0 := by
      rcases Classical.em (X6_within p0 2 3 = 0) with q | q
      · exact q
      · have := w_b q; omega
    have e4 : X6_within p0 4 5 = 0 := by
      rcases Classical.em (X6_within p0 4 5 = 0) with q | q
      · exact q
      · have := w_b q; omega
    rw [if_neg d, if_neg d, if_neg e0, if_neg e1, if_pos e2, if_pos e4]
    exact (h3 _ (fy_lt (fx_off (A := 10) (B := 20) rfl rfl (by decide) d (by decide)))).1
