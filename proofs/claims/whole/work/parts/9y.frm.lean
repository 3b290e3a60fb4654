/-! THE MACHINE OF FRAMES -/
section OD
variable {s : St}
theorem opd_1 : (1 : Int32) + stl (f_Pt_operands s 1) = f_M_wholeOf 1 ∧ sk (f_Pt_operands s 1) := by
  rw [show f_Pt_operands s 1 = some (am_sa + 0) from rfl]
  exact ⟨by decide +kernel, 0, by decide, rfl⟩
theorem opd_2 : (1 : Int32) + stl (f_Pt_operands s 2) = f_M_wholeOf 2 ∧ sk (f_Pt_operands s 2) := by
  rw [show f_Pt_operands s 2 = some (am_sa + 1) from rfl]
  exact ⟨by decide +kernel, 1, by decide, rfl⟩
theorem opd_3 : (1 : Int32) + stl (f_Pt_operands s 3) = f_M_wholeOf 3 ∧ sk (f_Pt_operands s 3) := by
  rw [show f_Pt_operands s 3 = some (am_sa + 2) from rfl]
  exact ⟨by decide +kernel, 2, by decide, rfl⟩
theorem opd_4 : (1 : Int32) + stl (f_Pt_operands s 4) = f_M_wholeOf 4 ∧ sk (f_Pt_operands s 4) := by
  rw [show f_Pt_operands s 4 = some (am_sa + 3) from rfl]
  exact ⟨by decide +kernel, 3, by decide, rfl⟩
theorem opd_5 : (1 : Int32) + stl (f_Pt_operands s 5) = f_M_wholeOf 5 ∧ sk (f_Pt_operands s 5) := by
  rw [show f_Pt_operands s 5 = some (am_sa + 4) from rfl]
  exact ⟨by decide +kernel, 4, by decide, rfl⟩
theorem opd_6 : (1 : Int32) + stl (f_Pt_operands s 6) = f_M_wholeOf 6 ∧ sk (f_Pt_operands s 6) := by
  rw [show f_Pt_operands s 6 = some (am_sa + 5) from rfl]
  exact ⟨by decide +kernel, 5, by decide, rfl⟩
theorem opd_7 : (1 : Int32) + stl (f_Pt_operands s 7) = f_M_wholeOf 7 ∧ sk (f_Pt_operands s 7) := by
  rw [show f_Pt_operands s 7 = some (am_sa + 6) from rfl]
  exact ⟨by decide +kernel, 6, by decide, rfl⟩
theorem opd_8 : (1 : Int32) + stl (f_Pt_operands s 8) = f_M_wholeOf 8 ∧ sk (f_Pt_operands s 8) := by
  rw [show f_Pt_operands s 8 = some (am_sa + 7) from rfl]
  exact ⟨by decide +kernel, 7, by decide, rfl⟩
theorem opd_9 : (1 : Int32) + stl (f_Pt_operands s 9) = f_M_wholeOf 9 ∧ sk (f_Pt_operands s 9) := by
  rw [show f_Pt_operands s 9 = some (am_sa + 8) from rfl]
  exact ⟨by decide +kernel, 8, by decide, rfl⟩
theorem opd_10 : (1 : Int32) + stl (f_Pt_operands s 10) = f_M_wholeOf 10 ∧ sk (f_Pt_operands s 10) := by
  rw [show f_Pt_operands s 10 = some (am_sa + 9) from rfl]
  exact ⟨by decide +kernel, 9, by decide, rfl⟩
theorem opd_11 : (1 : Int32) + stl (f_Pt_operands s 11) = f_M_wholeOf 11 ∧ sk (f_Pt_operands s 11) := by
  rw [show f_Pt_operands s 11 = some (am_sa + 10) from rfl]
  exact ⟨by decide +kernel, 10, by decide, rfl⟩
theorem opd_12 : (1 : Int32) + stl (f_Pt_operands s 12) = f_M_wholeOf 12 ∧ sk (f_Pt_operands s 12) := by
  rw [show f_Pt_operands s 12 = some (am_sa + 11) from rfl]
  exact ⟨by decide +kernel, 11, by decide, rfl⟩
theorem opd_13 : (1 : Int32) + stl (f_Pt_operands s 13) = f_M_wholeOf 13 ∧ sk (f_Pt_operands s 13) := by
  rw [show f_Pt_operands s 13 = some (am_sa + 12) from rfl]
  exact ⟨by decide +kernel, 12, by decide, rfl⟩
theorem opd_14 : (1 : Int32) + stl (f_Pt_operands s 14) = f_M_wholeOf 14 ∧ sk (f_Pt_operands s 14) := by
  rw [show f_Pt_operands s 14 = some (am_sa + 13) from rfl]
  exact ⟨by decide +kernel, 13, by decide, rfl⟩
theorem opd_15 : (1 : Int32) + stl (f_Pt_operands s 15) = f_M_wholeOf 15 ∧ sk (f_Pt_operands s 15) := by
  rw [show f_Pt_operands s 15 = some (am_sa + 14) from rfl]
  exact ⟨by decide +kernel, 14, by decide, rfl⟩
theorem opd_16 : (1 : Int32) + stl (f_Pt_operands s 16) = f_M_wholeOf 16 ∧ sk (f_Pt_operands s 16) := by
  rw [show f_Pt_operands s 16 = some (am_sa + 15) from rfl]
  exact ⟨by decide +kernel, 15, by decide, rfl⟩
theorem opd_17 : (1 : Int32) + stl (f_Pt_operands s 17) = f_M_wholeOf 17 ∧ sk (f_Pt_operands s 17) := by
  rw [show f_Pt_operands s 17 = some (am_sa + 16) from rfl]
  exact ⟨by decide +kernel, 16, by decide, rfl⟩
theorem opd_18 : (1 : Int32) + stl (f_Pt_operands s 18) = f_M_wholeOf 18 ∧ sk (f_Pt_operands s 18) := by
  rw [show f_Pt_operands s 18 = some (am_sa + 17) from rfl]
  exact ⟨by decide +kernel, 17, by decide, rfl⟩
theorem opd_19 : (1 : Int32) + stl (f_Pt_operands s 19) = f_M_wholeOf 19 ∧ sk (f_Pt_operands s 19) := by
  rw [show f_Pt_operands s 19 = some (am_sa + 18) from rfl]
  exact ⟨by decide +kernel, 18, by decide, rfl⟩
theorem opd_20 : (1 : Int32) + stl (f_Pt_operands s 20) = f_M_wholeOf 20 ∧ sk (f_Pt_operands s 20) := by
  rw [show f_Pt_operands s 20 = some (am_sa + 19) from rfl]
  exact ⟨by decide +kernel, 19, by decide, rfl⟩
theorem opd_21 : (1 : Int32) + stl (f_Pt_operands s 21) = f_M_wholeOf 21 ∧ sk (f_Pt_operands s 21) := by
  rw [show f_Pt_operands s 21 = some (am_sa + 20) from rfl]
  exact ⟨by decide +kernel, 20, by decide, rfl⟩
theorem opd_22 : (1 : Int32) + stl (f_Pt_operands s 22) = f_M_wholeOf 22 ∧ sk (f_Pt_operands s 22) := by
  rw [show f_Pt_operands s 22 = some (am_sa + 9) from rfl]
  exact ⟨by decide +kernel, 9, by decide, rfl⟩
theorem opd_23 : (1 : Int32) + stl (f_Pt_operands s 23) = f_M_wholeOf 23 ∧ sk (f_Pt_operands s 23) := by
  rw [show f_Pt_operands s 23 = some (am_sa + 21) from rfl]
  exact ⟨by decide +kernel, 21, by decide, rfl⟩
theorem opd_24 : (1 : Int32) + stl (f_Pt_operands s 24) = f_M_wholeOf 24 ∧ sk (f_Pt_operands s 24) := by
  rw [show f_Pt_operands s 24 = some (am_sa + 22) from rfl]
  exact ⟨by decide +kernel, 22, by decide, rfl⟩
theorem opd_25 : (1 : Int32) + stl (f_Pt_operands s 25) = f_M_wholeOf 25 ∧ sk (f_Pt_operands s 25) := by
  rw [show f_Pt_operands s 25 = some (am_sa + 21) from rfl]
  exact ⟨by decide +kernel, 21, by decide, rfl⟩
theorem opd_26 : (1 : Int32) + stl (f_Pt_operands s 26) = f_M_wholeOf 26 ∧ sk (f_Pt_operands s 26) := by
  rw [show f_Pt_operands s 26 = some (am_sa + 22) from rfl]
  exact ⟨by decide +kernel, 22, by decide, rfl⟩
theorem opd_27 : (1 : Int32) + stl (f_Pt_operands s 27) = f_M_wholeOf 27 ∧ sk (f_Pt_operands s 27) := by
  rw [show f_Pt_operands s 27 = some (am_sa + 23) from rfl]
  exact ⟨by decide +kernel, 23, by decide, rfl⟩
theorem opd_28 : (1 : Int32) + stl (f_Pt_operands s 28) = f_M_wholeOf 28 ∧ sk (f_Pt_operands s 28) := by
  rw [show f_Pt_operands s 28 = some (am_sa + 24) from rfl]
  exact ⟨by decide +kernel, 24, by decide, rfl⟩
theorem opd_29 : (1 : Int32) + stl (f_Pt_operands s 29) = f_M_wholeOf 29 ∧ sk (f_Pt_operands s 29) := by
  rw [show f_Pt_operands s 29 = some (am_sa + 25) from rfl]
  exact ⟨by decide +kernel, 25, by decide, rfl⟩
theorem opd_30 : (1 : Int32) + stl (f_Pt_operands s 30) = f_M_wholeOf 30 ∧ sk (f_Pt_operands s 30) := by
  rw [show f_Pt_operands s 30 = some (am_sa + 26) from rfl]
  exact ⟨by decide +kernel, 26, by decide, rfl⟩
theorem opd_31 : (1 : Int32) + stl (f_Pt_operands s 31) = f_M_wholeOf 31 ∧ sk (f_Pt_operands s 31) := by
  rw [show f_Pt_operands s 31 = some (am_sa + 27) from rfl]
  exact ⟨by decide +kernel, 27, by decide, rfl⟩
theorem opd_32 : (1 : Int32) + stl (f_Pt_operands s 32) = f_M_wholeOf 32 ∧ sk (f_Pt_operands s 32) := by
  rw [show f_Pt_operands s 32 = some (am_sa + 28) from rfl]
  exact ⟨by decide +kernel, 28, by decide, rfl⟩
theorem opd_33 : (1 : Int32) + stl (f_Pt_operands s 33) = f_M_wholeOf 33 ∧ sk (f_Pt_operands s 33) := by
  rw [show f_Pt_operands s 33 = some (am_sa + 29) from rfl]
  exact ⟨by decide +kernel, 29, by decide, rfl⟩
theorem opd_34 : (1 : Int32) + stl (f_Pt_operands s 34) = f_M_wholeOf 34 ∧ sk (f_Pt_operands s 34) := by
  rw [show f_Pt_operands s 34 = some (am_sa + 10) from rfl]
  exact ⟨by decide +kernel, 10, by decide, rfl⟩
theorem opd {x : Int32} (h1 : 1 ≤ x.toInt) (h2 : x.toInt ≤ 34) (v : Int32) : (v + 1) + stl (f_Pt_operands s x) = v + f_M_wholeOf x ∧ sk (f_Pt_operands s x) := by
  suffices g : (1 : Int32) + stl (f_Pt_operands s x) = f_M_wholeOf x ∧ sk (f_Pt_operands s x) from ⟨by rw [Int32.add_assoc, g.1], g.2⟩
  have ne : ∀ k : Int32, ¬ x = k → x.toInt ≠ k.toInt := fun k z y => z (Int32.toInt_inj.mp y)
  by_cases e1 : x = 1
  · rw [e1]; exact opd_1
  by_cases e2 : x = 2
  · rw [e2]; exact opd_2
  by_cases e3 : x = 3
  · rw [e3]; exact opd_3
  by_cases e4 : x = 4
  · rw [e4]; exact opd_4
  by_cases e5 : x = 5
  · rw [e5]; exact opd_5
  by_cases e6 : x = 6
  · rw [e6]; exact opd_6
  by_cases e7 : x = 7
  · rw [e7]; exact opd_7
  by_cases e8 : x = 8
  · rw [e8]; exact opd_8
  by_cases e9 : x = 9
  · rw [e9]; exact opd_9
  by_cases e10 : x = 10
  · rw [e10]; exact opd_10
  by_cases e11 : x = 11
  · rw [e11]; exact opd_11
  by_cases e12 : x = 12
  · rw [e12]; exact opd_12
  by_cases e13 : x = 13
  · rw [e13]; exact opd_13
  by_cases e14 : x = 14
  · rw [e14]; exact opd_14
  by_cases e15 : x = 15
  · rw [e15]; exact opd_15
  by_cases e16 : x = 16
  · rw [e16]; exact opd_16
  by_cases e17 : x = 17
  · rw [e17]; exact opd_17
  by_cases e18 : x = 18
  · rw [e18]; exact opd_18
  by_cases e19 : x = 19
  · rw [e19]; exact opd_19
  by_cases e20 : x = 20
  · rw [e20]; exact opd_20
  by_cases e21 : x = 21
  · rw [e21]; exact opd_21
  by_cases e22 : x = 22
  · rw [e22]; exact opd_22
  by_cases e23 : x = 23
  · rw [e23]; exact opd_23
  by_cases e24 : x = 24
  · rw [e24]; exact opd_24
  by_cases e25 : x = 25
  · rw [e25]; exact opd_25
  by_cases e26 : x = 26
  · rw [e26]; exact opd_26
  by_cases e27 : x = 27
  · rw [e27]; exact opd_27
  by_cases e28 : x = 28
  · rw [e28]; exact opd_28
  by_cases e29 : x = 29
  · rw [e29]; exact opd_29
  by_cases e30 : x = 30
  · rw [e30]; exact opd_30
  by_cases e31 : x = 31
  · rw [e31]; exact opd_31
  by_cases e32 : x = 32
  · rw [e32]; exact opd_32
  by_cases e33 : x = 33
  · rw [e33]; exact opd_33
  by_cases e34 : x = 34
  · rw [e34]; exact opd_34
  exfalso
  have m1 : x.toInt ≠ 1 := ne 1 e1
  have m2 : x.toInt ≠ 2 := ne 2 e2
  have m3 : x.toInt ≠ 3 := ne 3 e3
  have m4 : x.toInt ≠ 4 := ne 4 e4
  have m5 : x.toInt ≠ 5 := ne 5 e5
  have m6 : x.toInt ≠ 6 := ne 6 e6
  have m7 : x.toInt ≠ 7 := ne 7 e7
  have m8 : x.toInt ≠ 8 := ne 8 e8
  have m9 : x.toInt ≠ 9 := ne 9 e9
  have m10 : x.toInt ≠ 10 := ne 10 e10
  have m11 : x.toInt ≠ 11 := ne 11 e11
  have m12 : x.toInt ≠ 12 := ne 12 e12
  have m13 : x.toInt ≠ 13 := ne 13 e13
  have m14 : x.toInt ≠ 14 := ne 14 e14
  have m15 : x.toInt ≠ 15 := ne 15 e15
  have m16 : x.toInt ≠ 16 := ne 16 e16
  have m17 : x.toInt ≠ 17 := ne 17 e17
  have m18 : x.toInt ≠ 18 := ne 18 e18
  have m19 : x.toInt ≠ 19 := ne 19 e19
  have m20 : x.toInt ≠ 20 := ne 20 e20
  have m21 : x.toInt ≠ 21 := ne 21 e21
  have m22 : x.toInt ≠ 22 := ne 22 e22
  have m23 : x.toInt ≠ 23 := ne 23 e23
  have m24 : x.toInt ≠ 24 := ne 24 e24
  have m25 : x.toInt ≠ 25 := ne 25 e25
  have m26 : x.toInt ≠ 26 := ne 26 e26
  have m27 : x.toInt ≠ 27 := ne 27 e27
  have m28 : x.toInt ≠ 28 := ne 28 e28
  have m29 : x.toInt ≠ 29 := ne 29 e29
  have m30 : x.toInt ≠ 30 := ne 30 e30
  have m31 : x.toInt ≠ 31 := ne 31 e31
  have m32 : x.toInt ≠ 32 := ne 32 e32
  have m33 : x.toInt ≠ 33 := ne 33 e33
  have m34 : x.toInt ≠ 34 := ne 34 e34
  omega
end OD
/-! how the class goes on -/
def RES (fu : Nat) (c : St) (t : Nat) (y : Int32 × St) : Prop := ∀ g, 3 * (1000000 - t) + 5 ≤ g → (T_En_perform_13 fu g).1 c 0 (nI t) = y ∧ (WT_En_perform_13 fu g).1 c 0 (nI t)
section ES
variable {fu d t : Nat} {c : St} {y : Int32 × St}
theorem gt_lt (ht : t ≤ 999990) : cn2 .ge (nI t) 1000000 = false := by rw [c2_ge, yI_i (by omega), show ((1000000 : Int32).toInt) = 1000000 from rfl]; exact df (by omega)
theorem nI_p (d : Nat) : nI (d + 1) - 1 = nI d := by
  rw [show (1 : Int32) = nI 1 from rfl, show nI (d + 1) = nI d + nI 1 from Int32.ofNat_add d 1, Int32.add_sub_cancel]
theorem dp_ne (hd : d ≤ 131) : cn1 .eq (nI (d + 1)) = false := by rw [c1_eq, yI_i (by omega)]; exact df (by omega)
theorem en_fin (ht : t ≤ 999990) (h : sI c 12 12 = 0 ∨ sI c 1 3 = 2 ∨ sI c 1 3 = 3) : RES fu c t (sI c 1 3, c) := fun g hg => by
  obtain ⟨g, rfl⟩ : ∃ g', g = g' + 4 := ⟨g - 4, by omega⟩
  have z1 : (T_En_perform_13 fu (g + 3)).2.1 c (nI t) = (sI c 1 3, c) := by
    show b_En_perform_13 fu (T_En_perform_13 fu g) c 1 (nI t + Int32.ofInt 1) = _
    unfold b_En_perform_13
    rw [show cn1 .ne (1 : Int32) = true from rfl, cond_true]
    cases cn2 .ge (nI t + Int32.ofInt 1) 1000000 <;> rfl
  have z2 : (WT_En_perform_13 fu (g + 3)).2.1 c (nI t) := by
    show v_En_perform_13 fu (T_En_perform_13 fu g) (WT_En_perform_13 fu g) c 1 (nI t + Int32.ofInt 1)
    unfold v_En_perform_13
    rw [show cn1 .ne (1 : Int32) = true from rfl]
    exact ⟨fun _ => trivial, fun _ => ⟨fun _ => trivial, (fun z => nomatch z)⟩⟩
  constructor
  · show b_En_perform_13 fu (T_En_perform_13 fu (g + 3)) c 0 (nI t) = _
    unfold b_En_perform_13
    rw [gt_lt ht, cond_false, show cn1 .ne (0 : Int32) = false from rfl, cond_false]
    rcases h with h | h | h
    · rw [h, show cn1 .eq (0 : Int32) = true from rfl, cond_true]
      exact z1
    · rw [h, show cn2 .eq (2 : Int32) 2 = true from rfl, cond_true, ← h, z1]
      cases cn1 .eq (sI c 12 12) <;> rfl
    · rw [h, show cn2 .eq (3 : Int32) 2 = false from rfl, cond_false, show cn2 .ne (3 : Int32) 3 = false from rfl, cond_false, ← h, z1]
      cases cn1 .eq (sI c 12 12) <;> rfl
  · show v_En_perform_13 fu (T_En_perform_13 fu (g + 3)) (WT_En_perform_13 fu (g + 3)) c 0 (nI t)
    unfold v_En_perform_13
    rw [gt_lt ht, show cn1 .ne (0 : Int32) = false from rfl]
    refine ⟨(fun z => nomatch z), fun _ => ⟨(fun z => nomatch z), fun _ => ⟨fun _ => z2, fun q => ?_⟩⟩⟩
    rcases h with h | h | h
    · rw [h] at q
      exact nomatch q
    · rw [h]
      exact ⟨fun _ => z2, (fun z => nomatch z)⟩
    · rw [h]
      exact ⟨(fun z => nomatch z), fun _ => ⟨(fun z => nomatch z), fun _ => z2⟩⟩
/-- one step by a fault -/
theorem en_f (hd : d ≤ 131) (h : sI c 12 12 = nI (d + 1)) (hs : sI c 1 3 = 1) (ht : t ≤ 999990) (w : w_En_leaveByFault fu c (nI d)) (hy : RES fu (f_En_leaveByFault fu c (nI d)) (t + 1) y) : RES fu c t y := fun g hg => by
  obtain ⟨g, rfl⟩ : ∃ g', g = g' + 3 := ⟨g - 3, by omega⟩
  obtain ⟨x1, x2⟩ := hy g (by omega)
  constructor
  · show b_En_perform_13 fu (T_En_perform_13 fu (g + 2)) c 0 (nI t) = _
    unfold b_En_perform_13
    rw [gt_lt ht, cond_false, show cn1 .ne (0 : Int32) = false from rfl, cond_false, h, dp_ne hd, cond_false, hs, show cn2 .eq (1 : Int32) 2 = false from rfl, cond_false, show cn2 .ne (1 : Int32) 3 = true from rfl, cond_true, show cn2 .ne (1 : Int32) 1 = false from rfl, cond_false, nI_p]
    show (T_En_perform_13 fu g).1 _ 0 (nI t + Int32.ofInt 1) = _
    rw [nI_s]
    exact x1
  · show v_En_perform_13 fu (T_En_perform_13 fu (g + 2)) (WT_En_perform_13 fu (g + 2)) c 0 (nI t)
    unfold v_En_perform_13
    rw [gt_lt ht, show cn1 .ne (0 : Int32) = false from rfl, h, dp_ne hd, hs, show cn2 .eq (1 : Int32) 2 = false from rfl, show cn2 .ne (1 : Int32) 3 = true from rfl, show cn2 .ne (1 : Int32) 1 = false from rfl, nI_p]
    refine ⟨(fun z => nomatch z), fun _ => ⟨(fun z => nomatch z), fun _ => ⟨(fun z => nomatch z), fun _ => ⟨(fun z => nomatch z), fun _ => ⟨fun _ => ⟨(fun z => nomatch z), fun _ => ⟨w, ?_⟩⟩, (fun z => nomatch z)⟩⟩⟩⟩⟩
    show (WT_En_perform_13 fu g).1 _ 0 (nI t + Int32.ofInt 1)
    rw [nI_s]
    exact x2
/-- one step at the end of a frame -/
theorem en_l (hd : d ≤ 131) (h : sI c 12 12 = nI (d + 1)) (hs : sI c 1 3 = 0) (ht : t ≤ 999990) (hn : (sA c 16 d).toInt ≤ (sA c 15 d).toInt) (w : w_En_leave c (nI d)) (hy : RES fu (f_En_leave c (nI d)) (t + 1) y) : RES fu c t y := fun g hg => by
  obtain ⟨g, rfl⟩ : ∃ g', g = g' + 2 := ⟨g - 2, by omega⟩
  obtain ⟨x1, x2⟩ := hy g (by omega)
  have ed : (nI d).toNatClampNeg = d := nN (by omega)
  have vd : vp_in (nI d) 132 := vp_of (by rw [yI_i (by omega)]; omega) (by rw [yI_i (by omega)]; omega)
  have ge : cn2 .ge (sA c 15 d) (sA c 16 d) = true := by rw [c2_ge]; exact dt hn
  constructor
  · show b_En_perform_13 fu (T_En_perform_13 fu (g + 1)) c 0 (nI t) = _
    unfold b_En_perform_13
    rw [gt_lt ht, cond_false, show cn1 .ne (0 : Int32) = false from rfl, cond_false, h, dp_ne hd, cond_false, hs, show cn2 .eq (0 : Int32) 2 = false from rfl, cond_false, show cn2 .ne (0 : Int32) 3 = true from rfl, cond_true, show cn2 .ne (0 : Int32) 1 = true from rfl, cond_true, nI_p, ed, ge, cond_true]
    show (T_En_perform_13 fu g).1 _ 0 (nI t + Int32.ofInt 1) = _
    rw [nI_s]
    exact x1
  · show v_En_perform_13 fu (T_En_perform_13 fu (g + 1)) (WT_En_perform_13 fu (g + 1)) c 0 (nI t)
    unfold v_En_perform_13
    rw [gt_lt ht, show cn1 .ne (0 : Int32) = false from rfl, h, dp_ne hd, hs, show cn2 .eq (0 : Int32) 2 = false from rfl, show cn2 .ne (0 : Int32) 3 = true from rfl, show cn2 .ne (0 : Int32) 1 = true from rfl, nI_p, ed, ge]
    refine ⟨(fun z => nomatch z), fun _ => ⟨(fun z => nomatch z), fun _ => ⟨(fun z => nomatch z), fun _ => ⟨(fun z => nomatch z), fun _ => ⟨fun _ => ⟨fun _ => ⟨vd, vd, fun _ => ⟨w, ?_⟩, (fun z => nomatch z)⟩, (fun z => nomatch z)⟩, (fun z => nomatch z)⟩⟩⟩⟩⟩
    show (WT_En_perform_13 fu g).1 _ 0 (nI t + Int32.ofInt 1)
    rw [nI_s]
    exact x2
/-- one step that begins an op -/
theorem en_o (hd : d ≤ 131) (h : sI c 12 12 = nI (d + 1)) (hs : sI c 1 3 = 0) (ht : t ≤ 999990) (hn : (sA c 15 d).toInt < (sA c 16 d).toInt) (w : w_En_beginOp fu c (nI d)) (hy : RES fu (f_En_beginOp fu c (nI d)) (t + 1) y) : RES fu c t y := fun g hg => by
  obtain ⟨g, rfl⟩ : ∃ g', g = g' + 3 := ⟨g - 3, by omega⟩
  obtain ⟨x1, x2⟩ := hy g (by omega)
  have ed : (nI d).toNatClampNeg = d := nN (by omega)
  have vd : vp_in (nI d) 132 := vp_of (by rw [yI_i (by omega)]; omega) (by rw [yI_i (by omega)]; omega)
  have ge : cn2 .ge (sA c 15 d) (sA c 16 d) = false := by rw [c2_ge]; exact df (by omega)
  constructor
  · show b_En_perform_13 fu (T_En_perform_13 fu (g + 2)) c 0 (nI t) = _
    unfold b_En_perform_13
    rw [gt_lt ht, cond_false, show cn1 .ne (0 : Int32) = false from rfl, cond_false, h, dp_ne hd, cond_false, hs, show cn2 .eq (0 : Int32) 2 = false from rfl, cond_false, show cn2 .ne (0 : Int32) 3 = true from rfl, cond_true, show cn2 .ne (0 : Int32) 1 = true from rfl, cond_true, nI_p, ed, ge, cond_false]
    show (T_En_perform_13 fu g).1 _ 0 (nI t + Int32.ofInt 1) = _
    rw [nI_s]
    exact x1
  · show v_En_perform_13 fu (T_En_perform_13 fu (g + 2)) (WT_En_perform_13 fu (g + 2)) c 0 (nI t)
    unfold v_En_perform_13
    rw [gt_lt ht, show cn1 .ne (0 : Int32) = false from rfl, h, dp_ne hd, hs, show cn2 .eq (0 : Int32) 2 = false from rfl, show cn2 .ne (0 : Int32) 3 = true from rfl, show cn2 .ne (0 : Int32) 1 = true from rfl, nI_p, ed, ge]
    refine ⟨(fun z => nomatch z), fun _ => ⟨(fun z => nomatch z), fun _ => ⟨(fun z => nomatch z), fun _ => ⟨(fun z => nomatch z), fun _ => ⟨fun _ => ⟨fun _ => ⟨vd, vd, (fun z => nomatch z), fun _ => ⟨w, ?_⟩⟩, (fun z => nomatch z)⟩, (fun z => nomatch z)⟩⟩⟩⟩⟩
    show (WT_En_perform_13 fu g).1 _ 0 (nI t + Int32.ofInt 1)
    rw [nI_s]
    exact x2
end ES
/-! patches that are as the check leaves them -/
def lnA (A : Nat → Int32) (i : Nat) : Nat := (A i).toInt.toNat
def OVA (A : Nat → Int32) (p : Nat) : Prop := (p : Int) + (f_M_wholeOf (A p)).toInt ≤ 3200 ∧ ∀ j : Nat, (j : Int) + 1 < (f_M_wholeOf (A p)).toInt → (f_M_leastOf (A p) (nI j)).toInt ≤ (A (p + 1 + j)).toInt ∧ (A (p + 1 + j)).toInt ≤ (f_M_mostOf (A p) (nI j) (A (p + 1))).toInt
def PV (A : Nat → Int32) : Nat → Nat → Nat → Nat → Prop
  | 0, _, a, b => a = b
  | k + 1, dd, a, b => a = b ∨ (OVA A a ∧ 2 ≤ (f_M_wholeOf (A a)).toInt ∧
      (((A a).toInt = 30 ∧ 1 ≤ dd ∧ PV A k (dd - 1) (a + 4) (a + 4 + lnA A (a + 2)) ∧ PV A k (dd - 1) (a + 4 + lnA A (a + 2)) (a + 4 + lnA A (a + 2) + lnA A (a + 3)) ∧ PV A k dd (a + 4 + lnA A (a + 2) + lnA A (a + 3)) b) ∨
       ((A a).toInt = 31 ∧ 1 ≤ dd ∧ PV A k (dd - 1) (a + 3) (a + 3 + lnA A (a + 2)) ∧ PV A k dd (a + 3 + lnA A (a + 2)) b) ∨
       ((A a).toInt = 32 ∧ 1 ≤ dd ∧ PV A k (dd - 1) (a + 7) (a + 7 + lnA A (a + 4)) ∧ PV A k (dd - 1) (a + 7 + lnA A (a + 4)) (a + 7 + lnA A (a + 4) + lnA A (a + 5)) ∧ PV A k (dd - 1) (a + 7 + lnA A (a + 4) + lnA A (a + 5)) (a + 7 + lnA A (a + 4) + lnA A (a + 5) + lnA A (a + 6)) ∧ PV A k dd (a + 7 + lnA A (a + 4) + lnA A (a + 5) + lnA A (a + 6)) b) ∨
       (¬ (30 ≤ (A a).toInt ∧ (A a).toInt ≤ 32) ∧ PV A k dd (a + (f_M_wholeOf (A a)).toInt.toNat) b)))
theorem PV.le {A : Nat → Int32} : ∀ {k dd a b : Nat}, PV A k dd a b → a ≤ b
  | 0, _, _, _, h => Nat.le_of_eq h
  | k + 1, dd, a, b, h => by
    rcases h with h | ⟨-, -, h⟩
    · omega
    · rcases h with ⟨-, -, -, -, h⟩ | ⟨-, -, -, h⟩ | ⟨-, -, -, -, -, h⟩ | ⟨-, h⟩
      · have := PV.le h; omega
      · have := PV.le h; omega
      · have := PV.le h; omega
      · have := PV.le h; omega
/-- the code on both sides -/
def CDV (c r : St) : Prop := (∀ k, sA r 30 k = sA c 6 k &&& 255) ∧ ∀ p, p < 16 → sA c 7 p = sA r 31 p ∧ 0 ≤ (sA r 31 p).toInt ∧ (sA r 31 p).toInt ≤ 200 ∧ ∃ k, PV (sA r 30) k 10 (200 * p) (200 * p + (sA r 31 p).toInt.toNat)
theorem CDV.mv {c c' r r' : St} (h : CDV c r) (h1 : enC c c') (h2 : enR r r') : CDV c' r' := by
  unfold CDV
  rw [h1.2.2.1 6 (by decide) (by decide), h1.2.2.1 7 (by decide) (by decide), h2.2.2.1 30 (by decide) (by decide) (by decide) (by decide) (by decide), h2.2.2.1 31 (by decide) (by decide) (by decide) (by decide) (by decide)]
  exact h
/-- where a part begins -/
def HYP (G : AH) (T : Nat) (φ : Nat → Nat) (n u deep dd d e a b t : Nat) (va vb : Int32) (c r : St) : Prop :=
  RR G T φ n u c r ∧ SZ c ∧ CDV c r ∧ (sI c 12 12 = nI (d + 1) ∧ sI c 12 13 = nI deep ∧ sI r 21 25 = nI deep ∧ sI r 21 26 = nI e) ∧ (va.toInt = (a : Int) ∧ vb.toInt = (b : Int) ∧ sA c 15 d = va ∧ sA c 16 d = vb ∧ b ≤ 3200) ∧ (1 ≤ deep ∧ deep ≤ 12 ∧ dd ≤ 10 ∧ d + dd + 1 ≤ 11 * deep ∧ e ≤ d) ∧ (t : Int) + 5 * (sI r 21 11).toInt ≤ 100100
/-- where it ends; x: what comes next -/
def PO (G : AH) (T : Nat) (φ : Nat → Nat) (n d e t : Nat) (x : Int32) (c r : St) (q : Int32 × St) (c' : St) (t' : Nat) : Prop :=
  ∃ φ' n' u', RR G T φ' n' u' c' q.2 ∧ EX φ n φ' n' ∧ SR q.1 c' q.2 ∧ enC c c' ∧ enR r q.2 ∧ t' ≤ 150000 ∧ (q.1 = 0 ∨ q.1 = 1 → stC d c c' ∧ stR e r q.2 ∧ (t' : Int) + 5 * (sI q.2 21 11).toInt ≤ t + 5 * (sI r 21 11).toInt ∧ (sA c' 13 d = sA c 13 d ∧ sA c' 14 d = sA c 14 d ∧ ∀ k, k = 16 ∨ k = 17 ∨ k = 18 → sA c' k d = sA c k d) ∧ ∀ k, k < 16 * (d + 1) → sT c' 19 k = sT c 19 k ∧ sT c' 20 k = sT c 20 k) ∧ (q.1 = 0 → sA c' 15 d = x)
theorem PO.tr {G : AH} {T : Nat} {φ φ1 : Nat → Nat} {n n1 d e t t1 t2 : Nat} {x : Int32} {c r c1 r1 c2 : St} {q : Int32 × St} (he : EX φ n φ1 n1) (hc : enC c c1) (hr : enR r r1) (h1 : stC d c c1) (h2 : stR e r r1) (h3 : (t1 : Int) + 5 * (sI r1 21 11).toInt ≤ t + 5 * (sI r 21 11).toInt) (h4 : sA c1 13 d = sA c 13 d ∧ sA c1 14 d = sA c 14 d ∧ ∀ k, k = 16 ∨ k = 17 ∨ k = 18 → sA c1 k d = sA c k d) (h5 : ∀ k, k < 16 * (d + 1) → sT c1 19 k = sT c 19 k ∧ sT c1 20 k = sT c 20 k) (h : PO G T φ1 n1 d e t1 x c1 r1 q c2 t2) : PO G T φ n d e t x c r q c2 t2 := by
  obtain ⟨φ', n', u', g1, g2, g3, g4, g5, g6, g7, g8⟩ := h
  refine ⟨φ', n', u', g1, he.tr g2, g3, hc.tr g4, hr.tr g5, g6, fun z => ?_, g8⟩
  obtain ⟨a1, a2, a3, a4, a5⟩ := g7 z
  exact ⟨h1.tr a1, h2.tr a2, by omega, ⟨a4.1.trans h4.1, a4.2.1.trans h4.2.1, fun k hk => (a4.2.2 k hk).trans (h4.2.2 k hk)⟩, fun k hk => ⟨(a5 k hk).1.trans (h5 k hk).1, (a5 k hk).2.trans (h5 k hk).2⟩⟩
/-- the parts, at depth m of the reference's calls -/
def SP (G : AH) (T fu m : Nat) : Prop := ∀ (φ : Nat → Nat) (n u deep dd d e a b k t : Nat) (va vb : Int32) (c r : St), HYP G T φ n u deep dd d e a b t va vb c r → PV (sA r 30) k dd a b → 22 * (12 - deep) + 2 * dd + 2 ≤ m → (W_part fu m).1 r va vb ∧ ∃ c' t', PO G T φ n d e t vb c r ((F_part fu m).1 r va vb) c' t' ∧ ∀ y, RES fu c' t' y → RES fu c t y
