abbrev fsP (c x k : Int32) : Prop := 
  (X4_stands x k c = 0 ∧ ¬ 0 ≤ X7_faultOf_m123_l5 (fun _ => c) 0 x k) ∨
  (¬ X4_stands x k c = 0 ∧ 0 ≤ X7_faultOf_m123_l5 (fun _ => c) 0 x k ∧ X4_stands_o_place x k c = X7_faultOf_m123_l5 (fun _ => c) 0 x k ∧ X4_stands_o_kept x k c = X7_faultOf_m123_l2 (fun _ => c) 0 x k ∧ 0 ≤ X7_faultOf_m123_l2 (fun _ => c) 0 x k ∧ X7_faultOf_m123_l2 (fun _ => c) 0 x k ≤ 15 ∧
    ((¬ X7_letter c < 0 ∧ (x = 0 ∨ x = 1) ∧ X7_faultOf_m123_l5 (fun _ => c) 0 x k = 1 ∧ X7_faultOf_m123_l2 (fun _ => c) 0 x k = k ||| ((1 : Int32) <<< (X7_letter c &&& 31)) ∧ (x = 0 ∧ ¬ c = 45 ∨ J0_indexOf_0f7a4 3 fy_ends c < 0))
     ∨ (X7_letter c < 0 ∧ X7_end c < 0 ∧ x = 0 ∧ c = 45 ∧ X7_faultOf_m123_l5 (fun _ => c) 0 x k = 2 ∧ X7_faultOf_m123_l2 (fun _ => c) 0 x k = k)
     ∨ (X7_letter c < 0 ∧ ¬ X7_end c < 0 ∧ (x = 1 ∨ x = 2) ∧ X7_faultOf_m123_l5 (fun _ => c) 0 x k = 3 ∧ X7_faultOf_m123_l2 (fun _ => c) 0 x k = k ∧ ¬ J0_indexOf_0f7a4 3 fy_ends c < 0 ∧ J0_indexOf_0f7a4 3 fy_ends c = X7_end c)
     ∨ (X7_letter c < 0 ∧ X7_end c < 0 ∧ x = 3 ∧ X7_faultOf_m123_l5 (fun _ => c) 0 x k = 0 ∧ X7_faultOf_m123_l2 (fun _ => c) 0 x k = 0)))
set_option maxHeartbeats 4000000 in
theorem fs_all : ∀ i : Fin 94, ∀ x : Fin 4, ∀ k : Fin 16, fsP (nI (33 + i.val)) (nI x.val) (nI k.val) := by decide +kernel
theorem fs_ch : ∀ i : Fin 94, ((nI (33 + i.val)).toUInt32 % 65536).toInt32 = nI (33 + i.val) := by decide +kernel
theorem cd_of {c : Int32} (h0 : 33 ≤ c.toInt) (h1 : c.toInt ≤ 126) : ∃ i : Fin 94, c = nI (33 + i.val) := by
  have z : (0 : Int32).toInt = 0 := rfl
  have o : (126 : Int32).toInt = 126 := rfl
  obtain ⟨j, hj, e⟩ := nI_of2 (x := c) (M := 126) (n := 126) rfl (by rw [lt32]; omega) (by rw [le32]; omega)
  have zj : (nI j).toInt = (j : Int) := nI_t (by omega)
  rw [e, zj] at h0
  exact ⟨⟨j - 33, by omega⟩, by rw [e]; show nI j = nI (33 + (j - 33)); rw [show 33 + (j - 33) = j by omega]⟩
theorem fs_of {c : Int32} (h0 : 33 ≤ c.toInt) (h1 : c.toInt ≤ 126) {x k : Int32} (hx : x = 0 ∨ x = 1 ∨ x = 2 ∨ x = 3) (k0 : 0 ≤ k.toInt) (k1 : k.toInt ≤ 15) : fsP c x k ∧ (c.toUInt32 % 65536).toInt32 = c := by
  obtain ⟨i, e⟩ := cd_of h0 h1
  have z : (0 : Int32).toInt = 0 := rfl
  have o : (15 : Int32).toInt = 15 := rfl
  obtain ⟨j, hj, ej⟩ := nI_of2 (x := k) (M := 15) (n := 15) rfl (by rw [lt32]; omega) (by rw [le32]; omega)
  obtain ⟨y, ey⟩ : ∃ y : Fin 4, x = nI y.val := by
    rcases hx with h | h | h | h
    · exact ⟨0, h⟩
    · exact ⟨1, h⟩
    · exact ⟨2, h⟩
    · exact ⟨3, h⟩
  subst e; subst ej; subst ey
  exact ⟨fs_all i y ⟨j, by omega⟩, fs_ch i⟩
def rdI (mg mk me : Nat → Int32) (j : Nat) (x k fn : Int32) (fk fe : Nat → Int32) : Prop :=
  ∃ a : Nat, fn = nI a ∧ (X7_tries_L24 mg mk me j).2.1 = nI a ∧ (x = 0 → 3 * a ≤ j) ∧ (x = 1 ∨ x = 2 → 3 * a + 1 ≤ j) ∧ (x = 3 → 3 * a ≤ j + 1) ∧ (∀ i, i < a → fk i = (X7_tries_L24 mg mk me j).2.2 i ∧ fe i = (X7_tries_L24 mg mk me j).1 i ∧ 0 ≤ (fk i).toInt ∧ (fk i).toInt ≤ 15) ∧ (¬ x = 3 → a < 20 → (X7_tries_L24 mg mk me j).2.2 a = k) ∧ (x = 3 → a < 20 → (X7_tries_L24 mg mk me j).2.2 a = 0)
def rdO (mg mk me : Nat → Int32) (N j : Nat) (x : Int32) (R : Int32 × Int32 × Int32 × Int32 × (Nat → Int32) × (Nat → Int32)) (y : Int32) : Prop :=
  R.1 = y ∧ (y < 0 → y = -6 ∧ (x = 0 → j + 2 ≤ N) ∧ (x = 1 ∨ x = 2 → j + 1 ≤ N) ∧ (x = 3 → j = N ∨ j + 3 ≤ N) ∧ (∀ i, j ≤ i → i < N → vp_in (X7_tries_L24 mg mk me i).2.1 20) ∧ RT R.2.2.2.2.1 R.2.2.2.2.2 R.2.2.2.1 (X7_tries_L24 mg mk me N).2.2 (X7_tries_L24 mg mk me N).1 (X7_tries_L24 mg mk me N).2.1)
theorem l5_e (mg : Nat → Int32) (j : Nat) (x k : Int32) : X7_faultOf_m123_l5 (fun _ => mg j) 0 x k = X7_faultOf_m123_l5 mg j x k := rfl
theorem l2_e (mg : Nat → Int32) (j : Nat) (x k : Int32) : X7_faultOf_m123_l2 (fun _ => mg j) 0 x k = X7_faultOf_m123_l2 mg j x k := rfl
theorem tr_l {mg mk me : Nat → Int32} {j : Nat} (h : ¬ X7_letter (mg j) < 0) : X7_tries_L24 mg mk me (j + 1) = ((X7_tries_L24 mg mk me j).1, (X7_tries_L24 mg mk me j).2.1, upd (X7_tries_L24 mg mk me j).2.2 (X7_tries_L24 mg mk me j).2.1.toNatClampNeg (((X7_tries_L24 mg mk me j).2.2 (X7_tries_L24 mg mk me j).2.1.toNatClampNeg) ||| ((1 : Int32) <<< ((X7_letter (mg j)) &&& 31)))) := by
  rw [X7_tries_L24, if_neg h]
theorem tr_n {mg mk me : Nat → Int32} {j : Nat} (h : X7_letter (mg j) < 0) (g : X7_end (mg j) < 0) : X7_tries_L24 mg mk me (j + 1) = X7_tries_L24 mg mk me j := by
  rw [X7_tries_L24, if_pos h, if_pos g]
theorem tr_e {mg mk me : Nat → Int32} {j : Nat} (h : X7_letter (mg j) < 0) (g : ¬ X7_end (mg j) < 0) : (X7_tries_L24 mg mk me (j + 1)).1 = upd (X7_tries_L24 mg mk me j).1 (X7_tries_L24 mg mk me j).2.1.toNatClampNeg (X7_end (mg j)) ∧ (X7_tries_L24 mg mk me (j + 1)).2.1 = (X7_tries_L24 mg mk me j).2.1 + 1 ∧ (X7_tries_L24 mg mk me (j + 1)).2.2 = if (20 : Int32) ≤ (X7_tries_L24 mg mk me j).2.1 + 1 then (X7_tries_L24 mg mk me j).2.2 else upd (X7_tries_L24 mg mk me j).2.2 ((X7_tries_L24 mg mk me j).2.1 + 1).toNatClampNeg 0 := by
  rw [X7_tries_L24, if_pos h, if_neg g]
  by_cases c : (20 : Int32) ≤ (X7_tries_L24 mg mk me j).2.1 + 1
  · rw [if_pos c, if_pos c]; exact ⟨rfl, rfl, rfl⟩
  · rw [if_neg c, if_neg c]; exact ⟨rfl, rfl, rfl⟩
theorem nI_20 {a : Nat} (h : a < 20) : vp_in (nI a) 20 := fx_nn (N := 19) (n := 19) rfl (nI_pos' (by omega)) (by have z : (19 : Int32).toInt = 19 := rfl; have zj : (nI a).toInt = (a : Int) := nI_t (by omega); rw [le32]; omega)
theorem rd {sn : Int32} {sc mg : Nat → Int32} (hS : RS sn sc sn mg) (mk me : Nat → Int32) : ∀ (n j : Nat) (x k fn : Int32) (fk fe : Nat → Int32), j ≤ sn.toNatClampNeg → sn.toNatClampNeg < j + n → (x = 0 ∨ x = 1 ∨ x = 2 ∨ x = 3) → 0 ≤ k.toInt → k.toInt ≤ 15 → rdI mg mk me j x k fn fk fe → rdO mg mk me sn.toNatClampNeg j x (X4_read_L20 sn sc n j x k fn fk fe) (X7_faultOf_L6 sn mg n j x k)
  | 0, j, x, k, fn, fk, fe => fun a b _ _ _ _ => absurd b (by omega)
  | n + 1, j, x, k, fn, fk, fe => by
    intro hj hn hx k0 k1 hI
    obtain ⟨-, hb, hc⟩ := hS
    have t := tn_e (x := sn) hb.1
    have zj : (nI j).toInt = (j : Int) := nI_t (by omega)
    have z60 : (60 : Int32).toInt = 60 := rfl
    have z0 : (0 : Int32).toInt = 0 := rfl
    rw [X4_read_L20, X7_faultOf_L6]
    by_cases c1 : sn ≤ nI j
    · rw [if_pos c1, if_pos c1]
      rw [le32, zj] at c1
      have ej : j = sn.toNatClampNeg := by omega
      by_cases c2 : x = 3
      · rw [if_pos c2, if_pos c2]
        refine ⟨rfl, fun _ => ⟨rfl, fun e => ?_, fun e => ?_, fun _ => Or.inl ej, fun i h1 h2 => absurd h2 (by omega), ?_⟩⟩
        · rw [c2] at e; exact absurd e (by decide)
        · rw [c2] at e; exact absurd e (by decide)
        · obtain ⟨a, e1, e2, -, -, i3, i4, -, -⟩ := hI
          have l := i3 c2
          have za : (nI a).toInt = (a : Int) := nI_t (by omega)
          show RT fk fe fn _ _ _
          rw [← ej, e2, e1]
          refine ⟨rfl, by rw [za]; omega, fun i hi => ?_⟩
          rw [nI_clamp (by omega)] at hi
          exact i4 i hi
      · rw [if_neg c2, if_neg c2]
        refine ⟨rfl, fun h => absurd h ?_⟩
        rw [lt32, z0]; omega
    · rw [if_neg c1, if_neg c1]
      rw [le32, zj] at c1
      rw [if_neg (by rw [le32, zj, z60]; omega : ¬ (60 : Int32) ≤ nI j)]
      obtain ⟨ec, cd0, cd1⟩ := hc j (by omega)
      obtain ⟨P, ch⟩ := fs_of cd0 cd1 hx k0 k1
      rw [ch]
      rw [ec] at P ⊢
      rw [ec] at cd0 cd1
      unfold fsP at P
      rw [l5_e, l2_e] at P
      rcases P with ⟨p1, p2⟩ | ⟨p1, p2, p3, p4, p5, p6, P⟩
      · rw [if_pos p1, if_neg p2]
        refine ⟨rfl, fun h => absurd h ?_⟩
        rw [lt32, zj, z0]; omega
      · rw [if_neg p1, if_pos p2, p3, p4]
        have z15 : (15 : Int32).toInt = 15 := rfl
        rw [le32, z0] at p5
        rw [le32, z15] at p6
        obtain ⟨a, e1, e2, i1, i2, i3, i4, i5, i6⟩ := hI
        rcases P with ⟨q1, q2, q3, q4, q5⟩ | ⟨q1, q2, q3, q4, q5, q6⟩ | ⟨q1, q2, q3, q4, q5, q6, q7⟩ | ⟨q1, q2, q3, q4, q5⟩
        · have nx3 : ¬ x = 3 := by rcases q2 with q | q <;> rw [q] <;> decide
          have la : 3 * a ≤ j := by
            rcases q2 with q | q
            · exact i1 q
            · have := i2 (Or.inl q); omega
          have f1 : X4_stands_o_found_number x k fn (mg j) = fn := by
            unfold X4_stands_o_found_number
            rw [if_neg nx3]
            rcases q5 with ⟨q, r⟩ | q
            · rw [if_pos q, if_neg r, ite_self, ite_self]
            · rw [if_pos q, ite_self, ite_self, ite_self, ite_self]
          have f2 : X4_stands_o_found_kept x k fn fk (mg j) = fk := by
            unfold X4_stands_o_found_kept
            rw [if_neg nx3]
            rcases q5 with ⟨q, r⟩ | q
            · rw [if_pos q, if_neg r, ite_self, ite_self]
            · rw [if_pos q, ite_self, ite_self, ite_self, ite_self]
          have f3 : X4_stands_o_found_ended x k fn fe (mg j) = fe := by
            unfold X4_stands_o_found_ended
            rw [if_neg nx3]
            rcases q5 with ⟨q, r⟩ | q
            · rw [if_pos q, if_neg r, ite_self, ite_self]
            · rw [if_pos q, ite_self, ite_self, ite_self, ite_self]
          rw [f1, f2, f3, q3]
          have J : rdI mg mk me (j + 1) 1 (X7_faultOf_m123_l2 mg j x k) fn fk fe := by
            refine ⟨a, e1, ?_, fun e => absurd e (by decide), fun _ => by omega, fun e => absurd e (by decide), fun i hi => ?_, fun _ ha => ?_, fun e => absurd e (by decide)⟩
            · rw [tr_l q1]; exact e2
            · rw [tr_l q1]
              show fk i = upd _ _ _ i ∧ _
              rw [e2, nI_clamp (by omega), upd_o (by omega)]
              exact i4 i hi
            · rw [tr_l q1]
              show upd _ _ _ a = _
              rw [e2, nI_clamp (by omega), upd_s, q4, i5 nx3 ha]
          have I := rd ⟨rfl, hb, hc⟩ mk me n (j + 1) 1 (X7_faultOf_m123_l2 mg j x k) fn fk fe (by omega) (by omega) (Or.inr (Or.inl rfl)) p5 p6 J
          refine ⟨I.1, fun hy => ?_⟩
          obtain ⟨g0, g1, g2, g3, g4, g5⟩ := I.2 hy
          have g := g2 (Or.inl rfl)
          refine ⟨g0, fun _ => by omega, fun _ => by omega, fun e => absurd e nx3, fun i h1 h2 => ?_, g5⟩
          by_cases e : i = j
          · rw [e, e2]; exact nI_20 (by omega)
          · exact g4 i (by omega) h2
        · have nx3 : ¬ x = 3 := by rw [q3]; decide
          have la := i1 q3
          have f1 : X4_stands_o_found_number x k fn (mg j) = fn := by
            unfold X4_stands_o_found_number
            rw [if_neg nx3, if_pos q3, if_pos q4]
          have f2 : X4_stands_o_found_kept x k fn fk (mg j) = fk := by
            unfold X4_stands_o_found_kept
            rw [if_neg nx3, if_pos q3, if_pos q4]
          have f3 : X4_stands_o_found_ended x k fn fe (mg j) = fe := by
            unfold X4_stands_o_found_ended
            rw [if_neg nx3, if_pos q3, if_pos q4]
          rw [f1, f2, f3, q5]
          have J : rdI mg mk me (j + 1) 2 (X7_faultOf_m123_l2 mg j x k) fn fk fe := by
            refine ⟨a, e1, ?_, fun e => absurd e (by decide), fun _ => by omega, fun e => absurd e (by decide), fun i hi => ?_, fun _ ha => ?_, fun e => absurd e (by decide)⟩
            · rw [tr_n q1 q2]; exact e2
            · rw [tr_n q1 q2]; exact i4 i hi
            · rw [tr_n q1 q2, q6]; exact i5 nx3 ha
          have I := rd ⟨rfl, hb, hc⟩ mk me n (j + 1) 2 (X7_faultOf_m123_l2 mg j x k) fn fk fe (by omega) (by omega) (Or.inr (Or.inr (Or.inl rfl))) p5 p6 J
          refine ⟨I.1, fun hy => ?_⟩
          obtain ⟨g0, g1, g2, g3, g4, g5⟩ := I.2 hy
          have g := g2 (Or.inr rfl)
          refine ⟨g0, fun _ => by omega, fun _ => by omega, fun e => absurd e nx3, fun i h1 h2 => ?_, g5⟩
          by_cases e : i = j
          · rw [e, e2]; exact nI_20 (by omega)
          · exact g4 i (by omega) h2
        · have nx3 : ¬ x = 3 := by rcases q3 with q | q <;> rw [q] <;> decide
          have nx0 : ¬ x = 0 := by rcases q3 with q | q <;> rw [q] <;> decide
          have la := i2 q3
          have za : (nI a).toInt = (a : Int) := nI_t (by omega)
          have z20 : (20 : Int32).toInt = 20 := rfl
          have ln : fn < 20 := by rw [e1, lt32, za, z20]; omega
          have f1 : X4_stands_o_found_number x k fn (mg j) = nI (a + 1) := by
            unfold X4_stands_o_found_number X5_add_o_number
            rw [if_neg nx3, if_neg nx0, if_neg q6, if_pos ln, e1, nI_succ]
          have f2 : X4_stands_o_found_kept x k fn fk (mg j) = upd fk a k := by
            unfold X4_stands_o_found_kept X5_add_o_kept
            rw [if_neg nx3, if_neg nx0, if_neg q6, if_pos ln, e1, nI_clamp (by omega)]
          have f3 : X4_stands_o_found_ended x k fn fe (mg j) = upd fe a (X7_end (mg j)) := by
            unfold X4_stands_o_found_ended X5_add_o_ended
            rw [if_neg nx3, if_neg nx0, if_neg q6, if_pos ln, e1, nI_clamp (by omega), q7]
          rw [f1, f2, f3, q4]
          obtain ⟨t1, t2, t3⟩ := tr_e (mk := mk) (me := me) q1 q2
          rw [e2, nI_clamp (by omega)] at t1
          rw [e2, ← nI_succ] at t2
          rw [e2, ← nI_succ, nI_clamp (by omega)] at t3
          have J : rdI mg mk me (j + 1) 3 (X7_faultOf_m123_l2 mg j x k) (nI (a + 1)) (upd fk a k) (upd fe a (X7_end (mg j))) := by
            refine ⟨a + 1, rfl, t2, fun e => absurd e (by decide), fun e => absurd e (by decide), fun _ => by omega, fun i hi => ?_, fun e => absurd rfl e, fun _ ha => ?_⟩
            · have kk : (X7_tries_L24 mg mk me (j + 1)).2.2 i = (X7_tries_L24 mg mk me j).2.2 i := by
                rw [t3]
                by_cases c : (20 : Int32) ≤ nI (a + 1)
                · rw [if_pos c]
                · rw [if_neg c, upd_o (by omega)]
              rw [kk, t1]
              by_cases e : i = a
              · subst e
                rw [upd_s, upd_s, upd_s]
                exact ⟨(i5 nx3 (by omega)).symm, rfl, k0, k1⟩
              · rw [upd_o e, upd_o e, upd_o e]
                exact i4 i (by omega)
            · have zb : (nI (a + 1)).toInt = ((a + 1 : Nat) : Int) := nI_t (by omega)
              rw [t3, if_neg (by rw [le32, z20, zb]; omega : ¬ (20 : Int32) ≤ nI (a + 1)), upd_s]
          have I := rd ⟨rfl, hb, hc⟩ mk me n (j + 1) 3 (X7_faultOf_m123_l2 mg j x k) (nI (a + 1)) (upd fk a k) (upd fe a (X7_end (mg j))) (by omega) (by omega) (Or.inr (Or.inr (Or.inr rfl))) p5 p6 J
          refine ⟨I.1, fun hy => ?_⟩
          obtain ⟨g0, g1, g2, g3, g4, g5⟩ := I.2 hy
          refine ⟨g0, fun e => absurd e nx0, fun _ => by omega, fun e => absurd e nx3, fun i h1 h2 => ?_, g5⟩
          by_cases e : i = j
          · rw [e, e2]; exact nI_20 (by omega)
          · exact g4 i (by omega) h2
        · have la := i3 q3
          have f1 : X4_stands_o_found_number x k fn (mg j) = fn := by
            unfold X4_stands_o_found_number
            rw [if_pos q3]
          have f2 : X4_stands_o_found_kept x k fn fk (mg j) = fk := by
            unfold X4_stands_o_found_kept
            rw [if_pos q3]
          have f3 : X4_stands_o_found_ended x k fn fe (mg j) = fe := by
            unfold X4_stands_o_found_ended
            rw [if_pos q3]
          rw [f1, f2, f3, q4]
          have J : rdI mg mk me (j + 1) 0 (X7_faultOf_m123_l2 mg j x k) fn fk fe := by
            refine ⟨a, e1, ?_, fun _ => by omega, fun e => absurd e (by decide), fun e => absurd e (by decide), fun i hi => ?_, fun _ ha => ?_, fun e => absurd e (by decide)⟩
            · rw [tr_n q1 q2]; exact e2
            · rw [tr_n q1 q2]; exact i4 i hi
            · rw [tr_n q1 q2, q5]; exact i6 q3 ha
          have I := rd ⟨rfl, hb, hc⟩ mk me n (j + 1) 0 (X7_faultOf_m123_l2 mg j x k) fn fk fe (by omega) (by omega) (Or.inl rfl) p5 p6 J
          refine ⟨I.1, fun hy => ?_⟩
          obtain ⟨g0, g1, g2, g3, g4, g5⟩ := I.2 hy
          have g := g1 rfl
          refine ⟨g0, fun e => by rw [q3] at e; exact absurd e (by decide), fun e => by rw [q3] at e; exact absurd e (by decide), fun _ => Or.inr (by omega), fun i h1 h2 => ?_, g5⟩
          by_cases e : i = j
          · rw [e, e2]; exact nI_20 (by omega)
          · exact g4 i (by omega) h2
theorem rd0 {sn : Int32} {sc mg : Nat → Int32} {mn : Int32} (hS : RS sn sc mn mg) (mk me fk fe : Nat → Int32) : rdO mg mk me sn.toNatClampNeg 0 0 (X4_read_L20 sn sc 62 0 0 0 0 fk fe) (X7_faultOf mn mg) := by
  have e := hS.1
  subst e
  have t := tn_e (x := sn) hS.2.1.1
  exact rd hS mk me 62 0 0 0 0 fk fe (by omega) (by have := hS.2.1.2; omega) (Or.inl rfl) (by decide) (by decide) ⟨0, rfl, rfl, fun _ => by omega, fun e => absurd e (by decide), fun e => absurd e (by decide), fun i hi => absurd hi (by omega), fun _ _ => upd_s mk 0 0, fun e => absurd e (by decide)⟩
theorem rl_ht {x_now_night_start : Nat → Int32} {x_now_night_mass : Nat → Int32} {x_now_night_row : Nat → Int64} {x_now_night_alike : Nat → Int32} {x_now_tries_kept : Nat → Int32} {x_now_tries_ended : Nat → Int32} {x_now_tries_number : Int32} {x_im0_night_start : Nat → Int32} {x_im0_night_mass : Nat → Int32} {x_im0_night_row : Nat → Int64} {x_im0_night_alike : Nat → Int32} {x_im0_tries_kept : Nat → Int32} {x_im0_tries_ended : Nat → Int32} {x_im0_tries_number : Int32} {x_im1_night_start : Nat → Int32} {x_im1_night_mass : Nat → Int32} {x_im1_night_row : Nat → Int64} {x_im1_night_alike : Nat → Int32} {x_im1_tries_kept : Nat → Int32} {x_im1_tries_ended : Nat → Int32} {x_im1_tries_number : Int32} {x_taken : Nat → Int32} {x_signs_number : Int32} {x_signs_codes : Nat → Int32} {m_start : Nat → Int32} {m_mass : Nat → Int32} {m_rows : Nat → Int32} {m_told : Nat → Int32} {m_kept : Nat → Int32} {m_ended : Nat → Int32} {m_many : Int32} {m_image : Nat → Int32} {m_isKept : Nat → Int32} {m_signs : Int32} {m_sign : Nat → Int32} (hR : Rl x_now_night_start x_now_night_mass x_now_night_row x_now_night_alike x_now_tries_kept x_now_tries_ended x_now_tries_number x_im0_night_start x_im0_night_mass x_im0_night_row x_im0_night_alike x_im0_tries_kept x_im0_tries_ended x_im0_tries_number x_im1_night_start x_im1_night_mass x_im1_night_row x_im1_night_alike x_im1_tries_kept x_im1_tries_ended x_im1_tries_number x_taken x_signs_number x_signs_codes m_start m_mass m_rows m_told m_kept m_ended m_many m_image m_isKept m_signs m_sign) : X7_faultOf m_signs m_sign < 0 → ∀ j : Nat, j < m_signs.toNatClampNeg → vp_in (X7_tries_L24 m_sign m_kept m_ended j).2.1 20 := by
  intro h j hj
  have S := hR.2.2.1
  obtain ⟨-, b⟩ := rd0 S m_kept m_ended (fun _ => 0) (fun _ => 0)
  obtain ⟨-, -, -, -, g, -⟩ := b h
  rw [← S.1] at hj
  exact g j (Nat.zero_le j) hj
