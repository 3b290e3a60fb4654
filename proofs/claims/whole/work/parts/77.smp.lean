/-! SIMPLE CALLS -/
def R_pt (c r : St) : Prop := ∀ p, p < 16 → sA c 7 p = sA r 31 p ∧ 0 ≤ (sA r 31 p).toInt ∧ (sA r 31 p).toInt ≤ 200 ∧ ∀ k : Nat, (k : Int) < (sA r 31 p).toInt → sA r 30 (200 * p + k) = sA c 6 (200 * p + k) &&& 255
theorem n7 : ((7 : Int32).toInt) = 7 := rfl
theorem n8 : ((8 : Int32).toInt) = 8 := rfl
theorem n3 : ((3 : Int32).toInt) = 3 := rfl
theorem n4 : ((4 : Int32).toInt) = 4 := rfl
theorem n6 : ((6 : Int32).toInt) = 6 := rfl
theorem n15 : ((15 : Int32).toInt) = 15 := rfl
theorem n16 : ((16 : Int32).toInt) = 16 := rfl
theorem n23 : ((23 : Int32).toInt) = 23 := rfl
theorem n20 : ((20 : Int32).toInt) = 20 := rfl
theorem n2000 : ((2000 : Int32).toInt) = 2000 := rfl
theorem i_ne {x : Int32} {k : Int32} (h : ¬ x = k) : x.toInt ≠ k.toInt := fun z => h (Int32.toInt_inj.mp z)
theorem look_rng {a : Int32} (h0 : ¬ a = 0) (h1 : ¬ a = 1) (h2 : ¬ a = 2) (h3 : ¬ a = 3) (h4 : ¬ a = 4) (h5 : ¬ a = 5) (h6 : ¬ a = 6) : (a.toInt < 7 ↔ a.toInt ≤ 6) ∧ (7 ≤ a.toInt → a.toInt < 23 → 0 ≤ (a - 7).toInt ∧ (a - 7).toInt < 16) := by
  refine ⟨by omega, fun h7 h8 => ?_⟩
  rw [i_subn (a := a.toInt) rfl n7 (by omega) (by omega) (by omega) (by omega)]
  omega
theorem w_look_H (c : St) (a : Int32) : w_H_look c a := by
  unfold w_H_look
  refine ⟨fun _ => trivial, fun h0 => ⟨fun _ => trivial, fun h1 => ⟨fun _ => trivial, fun h2 => ⟨fun _ => trivial, fun h3 => ⟨fun _ => trivial, fun h4 => ⟨fun _ => trivial, fun h5 => ⟨fun _ => trivial, fun h6 => ⟨fun _ => trivial, fun h7 => ⟨fun _ => trivial, fun h8 => ⟨?_, trivial⟩⟩⟩⟩⟩⟩⟩⟩⟩⟩
  have g7 := i_lt_f h7
  have g8 := i_ge_f h8
  rw [n7] at g7
  rw [n23] at g8
  obtain ⟨z1, z2⟩ := (look_rng h0 h1 h2 h3 h4 h5 h6).2 g7 g8
  exact vp_of z1 z2
theorem w_look_M (r : St) (a : Int32) : w_M_look r a := by
  unfold w_M_look
  refine ⟨fun _ => trivial, fun h0 => ⟨fun _ => trivial, fun h1 => ⟨fun _ => trivial, fun h2 => ⟨fun _ => trivial, fun h3 => ⟨fun _ => trivial, fun h4 => ⟨fun _ => trivial, fun h5 => ⟨fun _ => trivial, fun h6 => ⟨fun _ => trivial, fun h7 => ⟨fun _ => trivial, fun h8 => ⟨?_, trivial⟩⟩⟩⟩⟩⟩⟩⟩⟩⟩
  have g7 := i_le_f h7
  have g8 := i_ge_f h8
  rw [n6] at g7
  rw [n23] at g8
  obtain ⟨z1, z2⟩ := (look_rng h0 h1 h2 h3 h4 h5 h6).2 (by omega) g8
  exact vp_of z1 z2
theorem look_st (r : St) (a : Int32) : (f_M_look r a).2 = pI r 21 0 0 := by
  unfold f_M_look
  repeat' split
  all_goals first | rfl | (cases cn1 .eq (sI r 21 15) <;> rfl) | (cases cn2 .le a 6 <;> cases cn2 .ge a 23 <;> rfl)
theorem p_look {c r : St} (h1 : R_tape c r) (h2 : R_out c r) (h3 : R_pt c r) (h4 : R_led c r) (h5 : R_last c r) (a : Int32) : f_H_look c a = (f_M_look r a).1 := by
  unfold f_H_look f_M_look
  split
  · exact h5.1
  · split
    · exact h5.2.1
    · split
      · exact h5.2.2
      · split
        · exact h4.1
        · split
          · exact h1.1
          · split
            · exact h2.1
            · split
              · rw [h4.2.2.2.1]
                cases cn1 .eq (sI r 21 15) <;> rfl
              · next g0 g1 g2 g3 g4 g5 g6 =>
                have hr := look_rng g0 g1 g2 g3 g4 g5 g6
                rw [c2_lt, c2_ge, c2_le, n7, n23, n6]
                by_cases k : a.toInt < 7
                · rw [cd_t k, cd_t (hr.1.mp k)]
                · rw [cd_f k, cd_f (fun z => k (hr.1.mpr z))]
                  by_cases k2 : 23 ≤ a.toInt
                  · rw [cd_t k2, cd_t k2]
                  · rw [cd_f k2, cd_f k2]
                    obtain ⟨z1, z2⟩ := hr.2 (by omega) (by omega)
                    exact (h3 _ (by rw [tn_eq]; omega)).1
theorem out_M (r : St) (a : Int32) : f_M_out r a = if 0 ≤ a.toInt ∧ a.toInt < (sI r 21 24).toInt then (sA r 33 a.toNatClampNeg, pI r 21 0 0) else (0, pI r 21 0 1) := by
  unfold f_M_out t_M_out_7 t_M_out_10
  rw [c1_lt, c2_lt, show cn1 .le (1 : Int32) = false from by decide, show cn1 .le (0 : Int32) = true from by decide]
  by_cases k : a.toInt < 0
  · rw [cd_t k, if_neg (by omega)]
    rfl
  · rw [cd_f k]
    by_cases k2 : a.toInt < (sI r 21 24).toInt
    · rw [cd_t k2, if_pos ⟨by omega, k2⟩]
      rfl
    · rw [cd_f k2, if_neg (by omega)]
      rfl
theorem w_out_M {r : St} (h : (sI r 21 24).toInt ≤ 2000) (a : Int32) : w_M_out r a := by
  unfold w_M_out w_M_out_7 w_M_out_10
  refine ⟨fun _ => ⟨fun z => absurd z (by decide), fun _ => trivial⟩, fun h1 => ⟨fun h2 => ⟨fun _ => ⟨?_, trivial⟩, fun _ => trivial⟩, fun _ => ⟨fun z => absurd z (by decide), fun _ => trivial⟩⟩⟩
  have g1 := j_lt_f h1
  have g2 := i_lt_t h2
  exact vp_of g1 (by omega)
theorem num_M (r : St) (a : Int32) : f_M_number r a = if 0 ≤ a.toInt ∧ a.toInt < 8 then (sA r 28 a.toNatClampNeg, pI r 21 0 0) else (0, pI r 21 0 1) := by
  unfold f_M_number t_M_number_6 t_M_number_9
  rw [c1_lt, c2_le, n7, show cn1 .le (1 : Int32) = false from by decide, show cn1 .le (0 : Int32) = true from by decide]
  by_cases k : a.toInt < 0
  · rw [cd_t k, if_neg (by omega)]
    rfl
  · rw [cd_f k]
    by_cases k2 : a.toInt ≤ 7
    · rw [cd_t k2, if_pos ⟨by omega, by omega⟩]
      rfl
    · rw [cd_f k2, if_neg (by omega)]
      rfl
theorem w_num_M (r : St) (a : Int32) : w_M_number r a := by
  unfold w_M_number w_M_number_6 w_M_number_9
  refine ⟨fun _ => ⟨fun z => absurd z (by decide), fun _ => trivial⟩, fun h1 => ⟨fun h2 => ⟨fun _ => ⟨?_, trivial⟩, fun _ => trivial⟩, fun _ => ⟨fun z => absurd z (by decide), fun _ => trivial⟩⟩⟩
  have g1 := j_lt_f h1
  have g2 := i_le_t h2
  rw [n7] at g2
  exact vp_of g1 (by omega)
theorem rea_M (r : St) (a : Int32) : f_M_real r a = if 0 ≤ a.toInt ∧ a.toInt < 4 then (sB r 29 a.toNatClampNeg, pI r 21 0 0) else (0, pI r 21 0 1) := by
  unfold f_M_real t_M_real_6 t_M_real_9
  rw [c1_lt, c2_le, n3, show cn1 .le (1 : Int32) = false from by decide, show cn1 .le (0 : Int32) = true from by decide]
  by_cases k : a.toInt < 0
  · rw [cd_t k, if_neg (by omega)]
    rfl
  · rw [cd_f k]
    by_cases k2 : a.toInt ≤ 3
    · rw [cd_t k2, if_pos ⟨by omega, by omega⟩]
      rfl
    · rw [cd_f k2, if_neg (by omega)]
      rfl
theorem w_rea_M (r : St) (a : Int32) : w_M_real r a := by
  unfold w_M_real w_M_real_6 w_M_real_9
  refine ⟨fun _ => ⟨fun z => absurd z (by decide), fun _ => trivial⟩, fun h1 => ⟨fun h2 => ⟨fun _ => ⟨?_, trivial⟩, fun _ => trivial⟩, fun _ => ⟨fun z => absurd z (by decide), fun _ => trivial⟩⟩⟩
  have g1 := j_lt_f h1
  have g2 := i_le_t h2
  rw [n3] at g2
  exact vp_of g1 (by omega)
theorem th_out_i (c : St) (a : Int32) : th_out c a = decide (¬ (0 ≤ a.toInt ∧ a.toInt < (sI c 2 3).toInt)) := by
  unfold th_out
  rw [c1_lt, c2_lt]
  by_cases k : a.toInt < 0
  · rw [decide_eq_true k, decide_eq_true (show ¬ (0 ≤ a.toInt ∧ a.toInt < (sI c 2 3).toInt) by omega)]
    rfl
  · by_cases k2 : a.toInt < (sI c 2 3).toInt
    · rw [decide_eq_false k, decide_eq_true k2, decide_eq_false (show ¬ ¬ (0 ≤ a.toInt ∧ a.toInt < (sI c 2 3).toInt) by omega)]
      rfl
    · rw [decide_eq_false k, decide_eq_false k2, decide_eq_true (show ¬ (0 ≤ a.toInt ∧ a.toInt < (sI c 2 3).toInt) by omega)]
      rfl
theorem th_num_i (a : Int32) : th_num a = decide (¬ (0 ≤ a.toInt ∧ a.toInt < 8)) := by
  unfold th_num
  rw [c1_lt, c2_lt, n8]
  by_cases k : a.toInt < 0
  · rw [decide_eq_true k, decide_eq_true (show ¬ (0 ≤ a.toInt ∧ a.toInt < 8) by omega)]
    rfl
  · by_cases k2 : a.toInt < 8
    · rw [decide_eq_false k, decide_eq_true k2, decide_eq_false (show ¬ ¬ (0 ≤ a.toInt ∧ a.toInt < 8) by omega)]
      rfl
    · rw [decide_eq_false k, decide_eq_false k2, decide_eq_true (show ¬ (0 ≤ a.toInt ∧ a.toInt < 8) by omega)]
      rfl
theorem th_rea_i (a : Int32) : th_rea a = decide (¬ (0 ≤ a.toInt ∧ a.toInt < 4)) := by
  unfold th_rea
  rw [c1_lt, c2_lt, n4]
  by_cases k : a.toInt < 0
  · rw [decide_eq_true k, decide_eq_true (show ¬ (0 ≤ a.toInt ∧ a.toInt < 4) by omega)]
    rfl
  · by_cases k2 : a.toInt < 4
    · rw [decide_eq_false k, decide_eq_true k2, decide_eq_false (show ¬ ¬ (0 ≤ a.toInt ∧ a.toInt < 4) by omega)]
      rfl
    · rw [decide_eq_false k, decide_eq_false k2, decide_eq_true (show ¬ (0 ≤ a.toInt ∧ a.toInt < 4) by omega)]
      rfl
