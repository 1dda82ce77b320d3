theorem md64 {a b : Int64} (ha : 0 ≤ a.toInt) (hb : 0 < b.toInt) : (a - a / b * b).toInt = a.toInt % b.toInt := by
  have la := Int64.toInt_lt a
  have t0 : 0 ≤ a.toInt / b.toInt := Int.ediv_nonneg ha (by omega)
  have t1 : a.toInt / b.toInt ≤ a.toInt := Int.ediv_le_self _ ha
  have m1 : a.toInt / b.toInt * b.toInt ≤ a.toInt := Int.ediv_mul_le _ (by omega)
  have m0 : 0 ≤ a.toInt / b.toInt * b.toInt := Int.mul_nonneg t0 (by omega)
  have d : (a / b).toInt = a.toInt / b.toInt := by rw [b_div (by rw [Int.tdiv_eq_ediv_of_nonneg ha]; omega) (by rw [Int.tdiv_eq_ediv_of_nonneg ha]; omega), Int.tdiv_eq_ediv_of_nonneg ha]
  have m : (a / b * b).toInt = a.toInt / b.toInt * b.toInt := by rw [b_mul (by rw [d]; omega) (by rw [d]; omega), d]
  rw [b_sub (by rw [m]; omega) (by rw [m]; omega), m, Int.emod_def, Int.mul_comm]
def gc : Nat → Int64 → Int64 → Int64 → Prop
  | 0, a, b, r => b = 0 ∧ r = a
  | m + 1, a, b, r => ¬ b = 0 ∧ gc m b (a - a / b * b) r
theorem gc_7 : ∀ (m f : Nat) (a b r : Int64), gc m a b r → m ≤ f → (X7_term_L6 f a b).1 = r
  | 0, 0, a, b, r, h, _ => h.2.symm
  | 0, f + 1, a, b, r, h, _ => by rw [X7_term_L6, if_pos h.1]; exact h.2.symm
  | m + 1, 0, a, b, r, h, hf => absurd hf (by omega)
  | m + 1, f + 1, a, b, r, h, hf => by rw [X7_term_L6, if_neg h.1]; exact gc_7 m f _ _ r h.2 (by omega)
theorem gc_6 : ∀ (m f j : Nat) (a b r : Int64), gc m a b r → m ≤ f → j + m ≤ 200 → (X6_commonDivisor_L9 f j a b).2.1 = r
  | 0, 0, j, a, b, r, h, _, _ => h.2.symm
  | 0, f + 1, j, a, b, r, h, _, _ => by
    rw [X6_commonDivisor_L9]
    by_cases c : (200 : Int32) ≤ nI j
    · rw [if_pos c]; exact h.2.symm
    · rw [if_neg c, if_pos h.1]; exact h.2.symm
  | m + 1, 0, j, a, b, r, h, hf, _ => absurd hf (by omega)
  | m + 1, f + 1, j, a, b, r, h, hf, hj => by
    have z : (200 : Int32).toInt = 200 := rfl
    have zj : (nI j).toInt = (j : Int) := nI_t (by omega)
    rw [X6_commonDivisor_L9, if_neg (by rw [le32, z, zj]; omega : ¬ (200 : Int32) ≤ nI j), if_neg h.1]
    exact gc_6 m f (j + 1) _ _ r h.2 (by omega) (by omega)
theorem gc_ex : ∀ (n : Nat) (a b : Int64), 0 ≤ a.toInt → 0 ≤ b.toInt → b.toInt < 2 ^ n → ∃ m r, gc m a b r ∧ m ≤ 2 * n ∧ m ≤ b.toInt.natAbs ∧ 0 ≤ r.toInt ∧ (0 < a.toInt ∨ 0 < b.toInt → 1 ≤ r.toInt)
  | 0, a, b, ha, hb, hn => by
    have z : (0 : Int64).toInt = 0 := rfl
    have e : b = 0 := by rw [eq64, z]; rw [Int.pow_zero] at hn; omega
    exact ⟨0, a, ⟨e, rfl⟩, by omega, by omega, ha, fun q => by rw [e, z] at q; omega⟩
  | n + 1, a, b, ha, hb, hn => by
    have z : (0 : Int64).toInt = 0 := rfl
    rw [Int.pow_succ] at hn
    by_cases e : b = 0
    · exact ⟨0, a, ⟨e, rfl⟩, by omega, by omega, ha, fun q => by rw [e, z] at q; omega⟩
    · have hb1 : 0 < b.toInt := by rw [eq64, z] at e; omega
      have r1 := md64 ha hb1
      have r1a := Int.emod_nonneg a.toInt (b := b.toInt) (by omega)
      have r1b := Int.emod_lt_of_pos a.toInt (b := b.toInt) hb1
      by_cases e2 : (a - a / b * b) = 0
      · exact ⟨1, b, ⟨e, e2, rfl⟩, by omega, by omega, hb, fun _ => by omega⟩
      · have hc : 0 < (a - a / b * b).toInt := by rw [eq64, z] at e2; omega
        obtain ⟨c, hc9⟩ : ∃ c, c = (a - a / b * b) := ⟨_, rfl⟩
        rw [← hc9] at r1 e2 hc
        have r2 := md64 hb hc
        have r2a := Int.emod_nonneg b.toInt (b := c.toInt) (by omega)
        have r2b := Int.emod_lt_of_pos b.toInt (b := c.toInt) hc
        have r2c : b.toInt % c.toInt ≤ b.toInt - c.toInt := by
          have q := Int.emod_add_mul_ediv b.toInt c.toInt
          have q1 : 1 ≤ b.toInt / c.toInt := by
            rw [Int.le_ediv_iff_mul_le hc]; omega
          have q2 : c.toInt * 1 ≤ c.toInt * (b.toInt / c.toInt) := Int.mul_le_mul_of_nonneg_left q1 (by omega)
          omega
        obtain ⟨m, r, g, g1, g2, g3, g4⟩ := gc_ex n c (b - b / c * c) (by omega) (by omega) (by omega)
        refine ⟨m + 2, r, ?_, by omega, by omega, g3, fun _ => g4 (Or.inl hc)⟩
        show ¬ b = 0 ∧ ¬ (a - a / b * b) = 0 ∧ gc m (a - a / b * b) (b - b / (a - a / b * b) * (a - a / b * b)) r
        rw [← hc9]
        exact ⟨e, e2, g⟩
theorem part_e {a b : Int64} {p : Int32} (ha : 0 ≤ a.toInt) (hb : 0 < b.toInt) (hp : p = 0 ∨ p = 1) : X6_partOf a b p = X7_term a b p := by
  have lb := Int64.toInt_lt b
  obtain ⟨m, r, g, g1, g2, g3, g4⟩ := gc_ex 63 a b ha (by omega) (by omega)
  have e6 : X6_commonDivisor a b = r := gc_6 m 201 0 a b r g (by omega) (by omega)
  have e7 : (X7_term_L6 (b.toInt.natAbs + 1) a b).1 = r := gc_7 m _ a b r g (by omega)
  have o := g4 (Or.inr hb)
  unfold X6_partOf X7_term X6_partOf_m26_s0
  have z : (1 : Int64).toInt = 1 := rfl
  rw [e6, e7, if_pos (by rw [le64, z]; exact o : (1 : Int64) ≤ r)]
  rcases hp with q | q
  · rw [if_pos q, if_pos q]
  · subst q
    rw [if_neg (by decide : ¬ (1 : Int32) = 0), if_neg (by decide : ¬ (1 : Int32) = 0)]
def wn (n : Nat) : Nat → Nat
  | 0 => 1
  | j + 1 => wn n j * (n - j) / (j + 1)
theorem wn_b : ∀ n : Fin 41, ∀ j : Fin 41, wn n.val j.val ≤ 137846528820 := by decide +kernel
theorem wy_z (q d m : Int) (hd : 0 < d) : q / d * m + q % d * m / d = q * m / d := by
  have h : q * m = q % d * m + q / d * m * d := by
    conv => lhs; rw [← Int.emod_add_mul_ediv q d]
    rw [Int.add_mul, Int.mul_comm d, Int.mul_assoc, Int.mul_assoc, Int.mul_comm d]
  rw [h, Int.add_mul_ediv_right _ _ (by omega), Int.add_comm]
theorem wy_6 {k n : Int32} (h0 : 1 ≤ n.toInt) (h1 : n.toInt ≤ 40) : ∀ j, j ≤ n.toNatClampNeg → (X6_waysOfAtLeast_L8 k n j).1.toInt = wn n.toNatClampNeg j
  | 0, _ => rfl
  | j + 1, hj => by
    have t := tn_e (x := n) (by omega)
    have i := wy_6 (k := k) h0 h1 j (by omega)
    have b := wn_b ⟨n.toNatClampNeg, by omega⟩ ⟨j, by omega⟩
    have zj : (nI j).toInt = (j : Int) := nI_t (by omega)
    have zk : (nI (j + 1)).toInt = ((j + 1 : Nat) : Int) := nI_t (by omega)
    have s : (n - nI j).toInt64.toInt = ((n.toNatClampNeg - j : Nat) : Int) := by rw [b_of, a_sub (by rw [zj]; omega) (by rw [zj]; omega), zj]; omega
    have M := z_mul (w := (wn n.toNatClampNeg j : Int)) (r := ((n.toNatClampNeg - j : Nat) : Int)) (W := 137846528820) (R := 40) (by omega) (by show (wn n.toNatClampNeg j : Int) ≤ _; have : wn n.toNatClampNeg j ≤ 137846528820 := b; omega) (by omega) (by omega)
    show (((X6_waysOfAtLeast_L8 k n j).1 * (n - nI j).toInt64) / (nI (j + 1)).toInt64).toInt = ((wn n.toNatClampNeg j * (n.toNatClampNeg - j) / (j + 1) : Nat) : Int)
    have m : ((X6_waysOfAtLeast_L8 k n j).1 * (n - nI j).toInt64).toInt = ((wn n.toNatClampNeg j * (n.toNatClampNeg - j) : Nat) : Int) := by
      rw [b_mul (by rw [i, s]; omega) (by rw [i, s]; omega), i, s, Int.natCast_mul]
    have q0 : (0 : Int) ≤ ((wn n.toNatClampNeg j * (n.toNatClampNeg - j) : Nat) : Int) := Int.natCast_nonneg _
    have q1 : ((wn n.toNatClampNeg j * (n.toNatClampNeg - j) : Nat) : Int) / ((j + 1 : Nat) : Int) ≤ ((wn n.toNatClampNeg j * (n.toNatClampNeg - j) : Nat) : Int) := Int.ediv_le_self _ q0
    have q2 : 0 ≤ ((wn n.toNatClampNeg j * (n.toNatClampNeg - j) : Nat) : Int) / ((j + 1 : Nat) : Int) := Int.ediv_nonneg q0 (by omega)
    have q3 : ((wn n.toNatClampNeg j * (n.toNatClampNeg - j) : Nat) : Int) ≤ 137846528820 * 40 := by rw [Int.natCast_mul]; exact M.2
    rw [b_div (by rw [m, b_of, zk, Int.tdiv_eq_ediv_of_nonneg q0]; omega) (by rw [m, b_of, zk, Int.tdiv_eq_ediv_of_nonneg q0]; omega), m, b_of, zk, Int.tdiv_eq_ediv_of_nonneg q0, Int.natCast_ediv]
theorem wy_7 {k n : Int32} (h0 : 1 ≤ n.toInt) (h1 : n.toInt ≤ 40) : ∀ j, j ≤ n.toNatClampNeg → (X7_waysFrom_L8 k n j).1.toInt = wn n.toNatClampNeg j
  | 0, _ => rfl
  | j + 1, hj => by
    have t := tn_e (x := n) (by omega)
    have i := wy_7 (k := k) h0 h1 j (by omega)
    have b := wn_b ⟨n.toNatClampNeg, by omega⟩ ⟨j, by omega⟩
    have b' : wn n.toNatClampNeg j ≤ 137846528820 := b
    have zj : (nI j).toInt = (j : Int) := nI_t (by omega)
    have zk : (nI (j + 1)).toInt64.toInt = ((j + 1 : Nat) : Int) := by rw [b_of]; exact nI_t (by omega)
    have s : (n - nI j).toInt64.toInt = ((n.toNatClampNeg - j : Nat) : Int) := by rw [b_of, a_sub (by rw [zj]; omega) (by rw [zj]; omega), zj]; omega
    show (X7_waysFrom_m78_l2 n j (X7_waysFrom_L8 k n j).1).toInt = ((wn n.toNatClampNeg j * (n.toNatClampNeg - j) / (j + 1) : Nat) : Int)
    unfold X7_waysFrom_m78_l2
    rw [if_neg (by rw [le32, zj]; omega : ¬ n ≤ nI j)]
    generalize (X7_waysFrom_L8 k n j).1 = q at *
    generalize (n - nI j).toInt64 = m at *
    generalize (nI (j + 1)).toInt64 = d at *
    rw [Int.natCast_ediv, Int.natCast_mul, ← i, ← s, ← zk]
    have d0 : 0 < d.toInt := by omega
    have q0 : 0 ≤ q.toInt := by omega
    have m0 : 0 ≤ m.toInt := by omega
    have m1 : m.toInt ≤ 40 := by omega
    have q1 : q.toInt ≤ 137846528820 := by omega
    have c0 : 0 ≤ q.toInt / d.toInt := Int.ediv_nonneg q0 (by omega)
    have c1 : q.toInt / d.toInt ≤ q.toInt := Int.ediv_le_self _ q0
    have dv : (q / d).toInt = q.toInt / d.toInt := by rw [b_div (by rw [Int.tdiv_eq_ediv_of_nonneg q0]; omega) (by rw [Int.tdiv_eq_ediv_of_nonneg q0]; omega), Int.tdiv_eq_ediv_of_nonneg q0]
    have md := md64 q0 d0
    have e0 := Int.emod_nonneg q.toInt (b := d.toInt) (by omega)
    have e1 := Int.emod_lt_of_pos q.toInt (b := d.toInt) d0
    have M1 := z_mul (w := q.toInt / d.toInt) (r := m.toInt) (W := 137846528820) (R := 40) c0 (by omega) m0 m1
    have M2 := z_mul (w := q.toInt % d.toInt) (r := m.toInt) (W := 41) (R := 40) e0 (by omega) m0 m1
    have x1 : (q / d * m).toInt = q.toInt / d.toInt * m.toInt := by rw [b_mul (by rw [dv]; omega) (by rw [dv]; omega), dv]
    have x2 : ((q - q / d * d) * m).toInt = q.toInt % d.toInt * m.toInt := by rw [b_mul (by rw [md]; omega) (by rw [md]; omega), md]
    have c2 : 0 ≤ q.toInt % d.toInt * m.toInt / d.toInt := Int.ediv_nonneg M2.1 (by omega)
    have c3 : q.toInt % d.toInt * m.toInt / d.toInt ≤ q.toInt % d.toInt * m.toInt := Int.ediv_le_self _ M2.1
    have x3 : ((q - q / d * d) * m / d).toInt = q.toInt % d.toInt * m.toInt / d.toInt := by rw [b_div (by rw [x2, Int.tdiv_eq_ediv_of_nonneg M2.1]; omega) (by rw [x2, Int.tdiv_eq_ediv_of_nonneg M2.1]; omega), x2, Int.tdiv_eq_ediv_of_nonneg M2.1]
    rw [b_add (by rw [x1, x3]; omega) (by rw [x1, x3]; omega), x1, x3]
    exact wy_z _ _ _ d0
theorem wy_e {k n : Int32} (h0 : 1 ≤ n.toInt) (h1 : n.toInt ≤ 40) : ∀ j, j ≤ n.toNatClampNeg + 1 → (X6_waysOfAtLeast_L8 k n j).2 = (X7_waysFrom_L8 k n j).2 ∧ 0 ≤ (X7_waysFrom_L8 k n j).2.toInt ∧ (X7_waysFrom_L8 k n j).2.toInt ≤ 137846528820 * j
  | 0, _ => ⟨rfl, (by decide : (0 : Int) ≤ (0 : Int64).toInt), (by decide : (0 : Int64).toInt ≤ 137846528820 * ((0 : Nat) : Int))⟩
  | j + 1, hj => by
    have t := tn_e (x := n) (by omega)
    obtain ⟨a, b, c⟩ := wy_e (k := k) h0 h1 j (by omega)
    have u6 := wy_6 (k := k) h0 h1 j (by omega)
    have u7 := wy_7 (k := k) h0 h1 j (by omega)
    have w : wn n.toNatClampNeg j ≤ 137846528820 := wn_b ⟨n.toNatClampNeg, by omega⟩ ⟨j, by omega⟩
    have e : (X6_waysOfAtLeast_L8 k n j).1 = (X7_waysFrom_L8 k n j).1 := by rw [eq64, u6, u7]
    have v6 : (X6_waysOfAtLeast_L8 k n (j + 1)).2 = X6_waysOfAtLeast_m26_l4 k j (X6_waysOfAtLeast_L8 k n j).1 (X6_waysOfAtLeast_L8 k n j).2 := rfl
    have v7 : (X7_waysFrom_L8 k n (j + 1)).2 = (X7_waysFrom_L8 k n j).2 + X7_waysFrom_m27_s1 k j (X7_waysFrom_L8 k n j).1 := rfl
    rw [v6, v7, a, e]
    unfold X6_waysOfAtLeast_m26_l4 X7_waysFrom_m27_s1
    by_cases d : nI j < k
    · rw [if_pos d, if_pos d, Int64.add_zero]
      exact ⟨rfl, b, by omega⟩
    · rw [if_neg d, if_neg d]
      have s : ((X7_waysFrom_L8 k n j).2 + (X7_waysFrom_L8 k n j).1).toInt = (X7_waysFrom_L8 k n j).2.toInt + (X7_waysFrom_L8 k n j).1.toInt := b_add (by omega) (by omega)
      exact ⟨rfl, by rw [s]; omega, by rw [s]; omega⟩
theorem ways_e {k n : Int32} (h0 : 1 ≤ n.toInt) (h1 : n.toInt ≤ 40) : X6_waysOfAtLeast k n = X7_waysFrom k n ∧ 0 ≤ (X7_waysFrom k n).toInt ∧ (X7_waysFrom k n).toInt ≤ 5651707681620 := by
  have t := tn_e (x := n) (by omega)
  obtain ⟨a, b, c⟩ := wy_e (k := k) h0 h1 (n.toNatClampNeg + 1) (by omega)
  exact ⟨a, b, by unfold X7_waysFrom; omega⟩
theorem p2_b : ∀ j : Fin 41, 0 < ((1 : Int64) <<< ((nI j.val).toInt64 &&& 63)).toInt ∧ ((1 : Int64) <<< ((nI j.val).toInt64 &&& 63)).toInt ≤ 1099511627776 := by decide +kernel
theorem p2_n {n : Int32} (h0 : 1 ≤ n.toInt) (h1 : n.toInt ≤ 40) : 0 < ((1 : Int64) <<< (n.toInt64 &&& 63)).toInt ∧ ((1 : Int64) <<< (n.toInt64 &&& 63)).toInt ≤ 1099511627776 := by
  have z : (0 : Int32).toInt = 0 := rfl
  have o : (40 : Int32).toInt = 40 := rfl
  obtain ⟨j, hj, e⟩ := nI_of2 (x := n) (M := 40) (n := 40) rfl (by rw [lt32]; omega) (by rw [le32]; omega)
  rw [e]
  exact p2_b ⟨j, by omega⟩
theorem pr_c {P W : Int64} {d : Int32} (p0 : 0 < P.toInt) (p1 : P.toInt ≤ 1099511627776) (w0 : 0 ≤ W.toInt) (w1 : W.toInt ≤ 5651707681620) (d0 : 1 ≤ d.toInt) (d1 : d.toInt ≤ 200) :
    (d.toInt64 * P < W * 1000) ↔ (P / 1000 * d.toInt64 + (P - P / 1000 * 1000) * d.toInt64 / 1000 < W) := by
  have k : (1000 : Int64).toInt = 1000 := rfl
  have M := z_mul (w := d.toInt) (r := P.toInt) (W := 200) (R := 1099511627776) (by omega) d1 (by omega) p1
  have dv : (P / 1000).toInt = P.toInt / 1000 := by rw [b_div (by rw [k, Int.tdiv_eq_ediv_of_nonneg (by omega)]; omega) (by rw [k, Int.tdiv_eq_ediv_of_nonneg (by omega)]; omega), k, Int.tdiv_eq_ediv_of_nonneg (by omega)]
  have md : (P - P / 1000 * 1000).toInt = P.toInt % 1000 := by rw [md64 (by omega) (by rw [k]; omega), k]
  have e0 := Int.emod_nonneg P.toInt (b := 1000) (by omega)
  have e1 := Int.emod_lt_of_pos P.toInt (b := 1000) (by omega)
  have M1 := z_mul (w := P.toInt / 1000) (r := d.toInt) (W := 1099511627776) (R := 200) (by omega) (by omega) (by omega) d1
  have M2 := z_mul (w := P.toInt % 1000) (r := d.toInt) (W := 1000) (R := 200) e0 (by omega) (by omega) d1
  have x1 : (P / 1000 * d.toInt64).toInt = P.toInt / 1000 * d.toInt := by rw [b_mul (by rw [dv, b_of]; omega) (by rw [dv, b_of]; omega), dv, b_of]
  have x2 : ((P - P / 1000 * 1000) * d.toInt64).toInt = P.toInt % 1000 * d.toInt := by rw [b_mul (by rw [md, b_of]; omega) (by rw [md, b_of]; omega), md, b_of]
  have x3 : ((P - P / 1000 * 1000) * d.toInt64 / 1000).toInt = P.toInt % 1000 * d.toInt / 1000 := by rw [b_div (by rw [x2, k, Int.tdiv_eq_ediv_of_nonneg M2.1]; omega) (by rw [x2, k, Int.tdiv_eq_ediv_of_nonneg M2.1]; omega), x2, k, Int.tdiv_eq_ediv_of_nonneg M2.1]
  have y := wy_z P.toInt 1000 d.toInt (by omega)
  rw [lt64, lt64, b_mul (by rw [b_of]; omega) (by rw [b_of]; omega), b_of, b_mul (by rw [k]; omega) (by rw [k]; omega), k, b_add (by rw [x1, x3]; omega) (by rw [x1, x3]; omega), x1, x3, y, Int.mul_comm d.toInt]
  rw [Int.mul_comm d.toInt] at M
  generalize P.toInt * d.toInt = Q at *
  omega
theorem pairs_l {s d : Int32} (d0 : 1 ≤ d.toInt) (d1 : d.toInt ≤ 200) : ∀ n j, 1 ≤ j → j ≤ 41 → X6_pairs_L27 s d n j = X7_pairs_L27 s d n j
  | 0, j => fun _ _ => rfl
  | n + 1, j => fun h0 h1 => by
    have zj : (nI j).toInt = (j : Int) := nI_t (by omega)
    have z40 : (40 : Int32).toInt = 40 := rfl
    rw [X6_pairs_L27, X7_pairs_L27]
    by_cases c : (40 : Int32) < nI j
    · rw [if_pos c, if_pos c]
    · rw [if_neg c, if_neg c]
      rw [lt32, zj, z40] at c
      obtain ⟨w, w0, w1⟩ := ways_e (k := ((nI j * s) + (9 : Int32)) / (10 : Int32)) (n := nI j) (by rw [zj]; omega) (by rw [zj]; omega)
      obtain ⟨p0, p1⟩ := p2_n (n := nI j) (by rw [zj]; omega) (by rw [zj]; omega)
      rw [w]
      have q := pr_c (d := d) p0 p1 w0 w1 d0 d1
      by_cases e : d.toInt64 * ((1 : Int64) <<< ((nI j).toInt64 &&& 63)) < X7_waysFrom (((nI j * s) + (9 : Int32)) / (10 : Int32)) (nI j) * 1000
      · rw [if_pos e, if_pos (q.mp e)]
        exact pairs_l d0 d1 n (j + 1) (by omega) (by omega)
      · rw [if_neg e, if_neg (fun r => e (q.mpr r))]
