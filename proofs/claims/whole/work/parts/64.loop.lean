theorem l_sub {N : Nat} (hN : N ≤ 3072) : (Int32.ofNat N - 6).toInt = (N : Int) - 6 := by
  have h1 := nt_sm (a := N) (by omega)
  have h2 := i_add (x := Int32.ofNat N) (-6) (by omega) (by omega) (by decide) (by decide)
  rw [show Int32.ofNat N - 6 = Int32.ofNat N + Int32.ofInt (-6) from Int32.sub_eq_add_neg _ _]
  omega
/-! what one call must keep: R k s: before at most k more calls -/
def lk_feed (R : Nat → St → Prop) (N : Nat) (xs : Nat → Int32) (fu : Nat) : Prop := ∀ (k : Nat) (s : St) (a b c d e : Int32), R (k + 1) s → w_H_feed fu s a b c d e ∧ isS N xs (f_H_feed fu s a b c d e).2 ∧ w_M_feed fu (f_H_feed fu s a b c d e).2 a b c d e ∧ (f_H_feed fu s a b c d e).1 = (f_M_feed fu (f_H_feed fu s a b c d e).2 a b c d e).1 ∧ R k (f_M_feed fu (f_H_feed fu s a b c d e).2 a b c d e).2
def lk_end (R : Nat → St → Prop) (N : Nat) (xs : Nat → Int32) (fu : Nat) : Prop := ∀ (k : Nat) (s : St) (a : Int32), R (k + 1) s → w_H_end s a ∧ isS N xs (f_H_end s a).2 ∧ w_M_end (f_H_end s a).2 a ∧ (f_H_end s a).1 = (f_M_end (f_H_end s a).2 a).1 ∧ R k (f_M_end (f_H_end s a).2 a).2
def lk_patch (R : Nat → St → Prop) (N : Nat) (xs : Nat → Int32) (fu : Nat) : Prop := ∀ (k : Nat) (s : St) (a : Int32), R (k + 1) s → w_H_patch fu s a ∧ isS N xs (f_H_patch fu s a).2 ∧ w_M_patch fu (f_H_patch fu s a).2 a ∧ (f_H_patch fu s a).1 = (f_M_patch fu (f_H_patch fu s a).2 a).1 ∧ R k (f_M_patch fu (f_H_patch fu s a).2 a).2
def lk_load (R : Nat → St → Prop) (N : Nat) (xs : Nat → Int32) (fu : Nat) : Prop := ∀ (k : Nat) (s : St) (a : Int32), R (k + 1) s → w_H_load fu s a ∧ isS N xs (f_H_load fu s a).2 ∧ w_M_load fu (f_H_load fu s a).2 a ∧ (f_H_load fu s a).1 = (f_M_load fu (f_H_load fu s a).2 a).1 ∧ R k (f_M_load fu (f_H_load fu s a).2 a).2
def lk_save (R : Nat → St → Prop) (N : Nat) (xs : Nat → Int32) (fu : Nat) : Prop := ∀ (k : Nat) (s : St) (a : Int32), R (k + 1) s → w_H_save fu s a ∧ isS N xs (f_H_save fu s a).2 ∧ w_M_save fu (f_H_save fu s a).2 a ∧ (f_H_save fu s a).1 = (f_M_save fu (f_H_save fu s a).2 a).1 ∧ R k (f_M_save fu (f_H_save fu s a).2 a).2
def lk_run (R : Nat → St → Prop) (N : Nat) (xs : Nat → Int32) (fu : Nat) : Prop := ∀ (k : Nat) (s : St) (a b : Int32), R (k + 1) s → w_H_run fu s a b ∧ isS N xs (f_H_run fu s a b).2 ∧ w_M_run fu (f_H_run fu s a b).2 a b ∧ (f_H_run fu s a b).1 = (f_M_run fu (f_H_run fu s a b).2 a b).1 ∧ R k (f_M_run fu (f_H_run fu s a b).2 a b).2
def lk_look (R : Nat → St → Prop) (N : Nat) (xs : Nat → Int32) (fu : Nat) : Prop := ∀ (k : Nat) (s : St) (a : Int32), R (k + 1) s → w_H_look s a ∧ isS N xs s ∧ w_M_look s a ∧ f_H_look s a = (f_M_look s a).1 ∧ R k (f_M_look s a).2
def lk_slot (R : Nat → St → Prop) (N : Nat) (xs : Nat → Int32) (fu : Nat) : Prop := ∀ (k : Nat) (s : St) (a b : Int32), R (k + 1) s → w_H_slot s a b ∧ isS N xs s ∧ w_M_slot s a b ∧ f_H_slot s a b = (f_M_slot s a b).1 ∧ R k (f_M_slot s a b).2
def lk_same (R : Nat → St → Prop) (N : Nat) (xs : Nat → Int32) (fu : Nat) : Prop := ∀ (k : Nat) (s : St) (a b : Int32), R (k + 1) s → w_H_same s a b ∧ isS N xs s ∧ w_M_same s a b ∧ f_H_same s a b = (f_M_same s a b).1 ∧ R k (f_M_same s a b).2
def lk_out (R : Nat → St → Prop) (N : Nat) (xs : Nat → Int32) : Prop := ∀ (k : Nat) (s : St) (a : Int32), R (k + 1) s → (th_out s a = false → vp_in a 2000) ∧ (th_out s a = false → isS N xs (pB s 36 (vp_updL (sB s 36) (Int32.toNatClampNeg 0) (Int32.toInt64 (sA s 4 (Int32.toNatClampNeg a) &&& 255)))) ∧ w_M_out (pB s 36 (vp_updL (sB s 36) (Int32.toNatClampNeg 0) (Int32.toInt64 (sA s 4 (Int32.toNatClampNeg a) &&& 255)))) a ∧ sI (f_M_out (pB s 36 (vp_updL (sB s 36) (Int32.toNatClampNeg 0) (Int32.toInt64 (sA s 4 (Int32.toNatClampNeg a) &&& 255)))) a).2 21 0 = 0 ∧ sB (f_M_out (pB s 36 (vp_updL (sB s 36) (Int32.toNatClampNeg 0) (Int32.toInt64 (sA s 4 (Int32.toNatClampNeg a) &&& 255)))) a).2 36 (Int32.toNatClampNeg 0) = Int32.toInt64 (f_M_out (pB s 36 (vp_updL (sB s 36) (Int32.toNatClampNeg 0) (Int32.toInt64 (sA s 4 (Int32.toNatClampNeg a) &&& 255)))) a).1 ∧ R k (f_M_out (pB s 36 (vp_updL (sB s 36) (Int32.toNatClampNeg 0) (Int32.toInt64 (sA s 4 (Int32.toNatClampNeg a) &&& 255)))) a).2) ∧ (th_out s a = true → ∀ n u, sN s ≤ n → n ≤ sN s + 1 → sU s ≤ u → u ≤ sU s + 6 → w_M_out (pQ s (sD s) n u) a ∧ sI (f_M_out (pQ s (sD s) n u) a).2 21 0 = 1 ∧ R k (f_M_out (pQ s (sD s) n u) a).2)
def lk_number (R : Nat → St → Prop) (N : Nat) (xs : Nat → Int32) : Prop := ∀ (k : Nat) (s : St) (a : Int32), R (k + 1) s → (th_num a = false → isS N xs (pB s 36 (vp_updL (sB s 36) (Int32.toNatClampNeg 0) (Int32.toInt64 (sA s 9 (Int32.toNatClampNeg a))))) ∧ w_M_number (pB s 36 (vp_updL (sB s 36) (Int32.toNatClampNeg 0) (Int32.toInt64 (sA s 9 (Int32.toNatClampNeg a))))) a ∧ sI (f_M_number (pB s 36 (vp_updL (sB s 36) (Int32.toNatClampNeg 0) (Int32.toInt64 (sA s 9 (Int32.toNatClampNeg a))))) a).2 21 0 = 0 ∧ sB (f_M_number (pB s 36 (vp_updL (sB s 36) (Int32.toNatClampNeg 0) (Int32.toInt64 (sA s 9 (Int32.toNatClampNeg a))))) a).2 36 (Int32.toNatClampNeg 0) = Int32.toInt64 (f_M_number (pB s 36 (vp_updL (sB s 36) (Int32.toNatClampNeg 0) (Int32.toInt64 (sA s 9 (Int32.toNatClampNeg a))))) a).1 ∧ R k (f_M_number (pB s 36 (vp_updL (sB s 36) (Int32.toNatClampNeg 0) (Int32.toInt64 (sA s 9 (Int32.toNatClampNeg a))))) a).2) ∧ (th_num a = true → ∀ n u, sN s ≤ n → n ≤ sN s + 1 → sU s ≤ u → u ≤ sU s + 6 → w_M_number (pQ s (sD s) n u) a ∧ sI (f_M_number (pQ s (sD s) n u) a).2 21 0 = 1 ∧ R k (f_M_number (pQ s (sD s) n u) a).2)
def lk_real (R : Nat → St → Prop) (N : Nat) (xs : Nat → Int32) : Prop := ∀ (k : Nat) (s : St) (a : Int32), R (k + 1) s → (th_rea a = false → isS N xs (pB s 36 (vp_updL (sB s 36) (Int32.toNatClampNeg 0) (sB s 10 (Int32.toNatClampNeg a)))) ∧ w_M_real (pB s 36 (vp_updL (sB s 36) (Int32.toNatClampNeg 0) (sB s 10 (Int32.toNatClampNeg a)))) a ∧ sI (f_M_real (pB s 36 (vp_updL (sB s 36) (Int32.toNatClampNeg 0) (sB s 10 (Int32.toNatClampNeg a)))) a).2 21 0 = 0 ∧ sB (f_M_real (pB s 36 (vp_updL (sB s 36) (Int32.toNatClampNeg 0) (sB s 10 (Int32.toNatClampNeg a)))) a).2 36 (Int32.toNatClampNeg 0) = (f_M_real (pB s 36 (vp_updL (sB s 36) (Int32.toNatClampNeg 0) (sB s 10 (Int32.toNatClampNeg a)))) a).1 ∧ R k (f_M_real (pB s 36 (vp_updL (sB s 36) (Int32.toNatClampNeg 0) (sB s 10 (Int32.toNatClampNeg a)))) a).2) ∧ (th_rea a = true → ∀ n u, sN s ≤ n → n ≤ sN s + 1 → sU s ≤ u → u ≤ sU s + 6 → w_M_real (pQ s (sD s) n u) a ∧ sI (f_M_real (pQ s (sD s) n u) a).2 21 0 = 1 ∧ R k (f_M_real (pQ s (sD s) n u) a).2)
def lk_member (R : Nat → St → Prop) (N : Nat) (xs : Nat → Int32) : Prop := ∀ (k : Nat) (s : St) (a b : Int32), R (k + 1) s → (th_sl s a ≠ none → wu_tellable s (th_sl s a)) ∧ (th_mem s a b = false → wu_told s (th_sl s a) b) ∧ (th_mem s a b = false → isS N xs (pB s 36 (vp_updL (sB s 36) (Int32.toNatClampNeg 0) (u_told s (th_sl s a) b))) ∧ w_M_member (pB s 36 (vp_updL (sB s 36) (Int32.toNatClampNeg 0) (u_told s (th_sl s a) b))) a b ∧ sI (f_M_member (pB s 36 (vp_updL (sB s 36) (Int32.toNatClampNeg 0) (u_told s (th_sl s a) b))) a b).2 21 0 = 0 ∧ sB (f_M_member (pB s 36 (vp_updL (sB s 36) (Int32.toNatClampNeg 0) (u_told s (th_sl s a) b))) a b).2 36 (Int32.toNatClampNeg 0) = (f_M_member (pB s 36 (vp_updL (sB s 36) (Int32.toNatClampNeg 0) (u_told s (th_sl s a) b))) a b).1 ∧ R k (f_M_member (pB s 36 (vp_updL (sB s 36) (Int32.toNatClampNeg 0) (u_told s (th_sl s a) b))) a b).2) ∧ (th_mem s a b = true → ∀ n u, sN s ≤ n → n ≤ sN s + 1 → sU s ≤ u → u ≤ sU s + 6 → w_M_member (pQ s (sD s) n u) a b ∧ sI (f_M_member (pQ s (sD s) n u) a b).2 21 0 = 1 ∧ R k (f_M_member (pQ s (sD s) n u) a b).2)
def LawOK (R : Nat → St → Prop) (N : Nat) (xs : Nat → Int32) (fu : Nat) : Prop := (∀ k s, R k s → isS N xs s) ∧ (∀ k s, R (k + 1) s → thr s ∧ R k s) ∧ lk_feed R N xs fu ∧ lk_end R N xs fu ∧ lk_patch R N xs fu ∧ lk_load R N xs fu ∧ lk_save R N xs fu ∧ lk_out R N xs ∧ lk_run R N xs fu ∧ lk_look R N xs fu ∧ lk_number R N xs ∧ lk_real R N xs ∧ lk_slot R N xs fu ∧ lk_member R N xs ∧ lk_same R N xs fu
theorem l_loop {R : Nat → St → Prop} {N : Nat} {xs : Nat → Int32} {fu : Nat} (hR : LawOK R N xs fu) (hN : N ≤ 3072) : ∀ (k : Nat) (s : St) (x : Int32), R k s → 0 ≤ x.toInt → x.toInt ≤ 3072 → (N : Int) < x.toInt + 6 * k + 6 → X m_L_law 1000 13 (LL x) [] (hp s) QT := by
  obtain ⟨hS, hthr, h_feed, h_end, h_patch, h_load, h_save, h_out, h_run, h_look, h_number, h_real, h_slot, h_member, h_same⟩ := hR
  intro k
  induction k with
  | zero =>
    intro s x hs h0 h1 h2
    have hs1 := hS _ _ hs
    refine X_run 2 (i1 := 15) (L1 := LL x) (st1 := [.inr (.inr (some am_sc)), .inl x]) rfl ?_
    refine X_alen rfl ((hp_ge (by decide)).trans hs1) rfl ?_
    refine X_run 3 (i1 := cond (cn2 .gt x (Int32.ofNat N - 6)) 398 19) (L1 := LL x) (st1 := []) rfl ?_
    have e : (Int32.ofNat N - 6).toInt = (N : Int) - 6 := l_sub hN
    rw [show cn2 .gt x (Int32.ofNat N - 6) = true from decide_eq_true (by rw [Int32.lt_iff_toInt_lt, e]; omega)]
    refine X_run 1 (i1 := 399) (L1 := LL x) (st1 := [.inl 1]) rfl ?_
    exact X_zret rfl rfl (Or.inr rfl) rfl
  | succ k ih =>
    intro s x hs h0 h1 h2
    have hs1 := hS _ _ hs
    refine X_run 2 (i1 := 15) (L1 := LL x) (st1 := [.inr (.inr (some am_sc)), .inl x]) rfl ?_
    refine X_alen rfl ((hp_ge (by decide)).trans hs1) rfl ?_
    refine X_run 3 (i1 := cond (cn2 .gt x (Int32.ofNat N - 6)) 398 19) (L1 := LL x) (st1 := []) rfl ?_
    have e : (Int32.ofNat N - 6).toInt = (N : Int) - 6 := l_sub hN
    cases hc : cn2 .gt x (Int32.ofNat N - 6) with
    | true =>
      refine X_run 1 (i1 := 399) (L1 := LL x) (st1 := [.inl 1]) rfl ?_
      exact X_zret rfl rfl (Or.inr rfl) rfl
    | false =>
      have hx : scx N x := by
        have := i_gt_f hc
        rw [e] at this
        exact ⟨h0, by omega, hN⟩
      have e6 := i_add (x := x) 6 (by omega) (by omega) (by omega) (by omega)
      have K : ∀ s2, R k s2 → X m_L_law 1000 396 (LL x) [] (hp s2) QT := fun s2 h => by
        refine X_run 2 (i1 := 13) (L1 := LL (x + Int32.ofInt 6)) (st1 := []) rfl ?_
        obtain ⟨hx1, hx2, hx3⟩ := hx
        exact ih s2 (x + Int32.ofInt 6) h (by omega) (by omega) (by omega)
      refine X_run 2 (i1 := 21) (L1 := LL x) (st1 := [.inl x, .inr (.inr (some am_sc))]) rfl ?_
      refine X_sc rfl hs1 (scx_in0 hx) ?_
      refine X_run 2 (i1 := 24) (L1 := LL x) (st1 := [.inl (xs x.toNatClampNeg &&& 15)]) rfl ?_
      by_cases g0 : xs x.toNatClampNeg &&& 15 = (0 : Int32)
      · refine X_tsk rfl g0 rfl ?_
        obtain ⟨q1, q2, q3, q4, q5⟩ := h_feed k s (sc1 xs x 1) (sc1 xs x 2) (sc1 xs x 3) (sc1 xs x 4) (sc1 xs x 5) hs
        exact l_feed fu s hs1 hx q1 q2 q3 q4 (K _ q5)
      by_cases g1 : xs x.toNatClampNeg &&& 15 = (1 : Int32)
      · refine X_tsk rfl g1 rfl ?_
        obtain ⟨q1, q2, q3, q4, q5⟩ := h_end k s (sc1 xs x 1) hs
        exact l_end fu s hs1 hx q1 q2 q3 q4 (K _ q5)
      by_cases g2 : xs x.toNatClampNeg &&& 15 = (2 : Int32)
      · refine X_tsk rfl g2 rfl ?_
        obtain ⟨q1, q2, q3, q4, q5⟩ := h_patch k s (sc1 xs x 1) hs
        exact l_patch fu s hs1 hx q1 q2 q3 q4 (K _ q5)
      by_cases g3 : xs x.toNatClampNeg &&& 15 = (3 : Int32)
      · refine X_tsk rfl g3 rfl ?_
        obtain ⟨q1, q2, q3, q4, q5⟩ := h_load k s (sc1 xs x 1) hs
        exact l_load fu s hs1 hx q1 q2 q3 q4 (K _ q5)
      by_cases g4 : xs x.toNatClampNeg &&& 15 = (4 : Int32)
      · refine X_tsk rfl g4 rfl ?_
        obtain ⟨q1, q2, q3, q4, q5⟩ := h_save k s (sc1 xs x 1) hs
        exact l_save fu s hs1 hx q1 q2 q3 q4 (K _ q5)
      by_cases g5 : xs x.toNatClampNeg &&& 15 = (5 : Int32)
      · refine X_tsk rfl g5 rfl ?_
        obtain ⟨w1, q1, q2⟩ := h_out k s (sc1 xs x 1) hs
        exact l_out s hs1 hx (hthr _ _ hs).1 w1 (fun ht => by
          obtain ⟨z1, z2, z3, z4, z5⟩ := q1 ht
          exact ⟨z1, z2, z3, z4, K _ z5⟩) (fun ht n u b1 b2 b3 b4 => by
          obtain ⟨z1, z2, z3⟩ := q2 ht n u b1 b2 b3 b4
          exact ⟨z1, z2, K _ z3⟩)
      by_cases g6 : xs x.toNatClampNeg &&& 15 = (6 : Int32)
      · refine X_tsk rfl g6 rfl ?_
        obtain ⟨q1, q2, q3, q4, q5⟩ := h_run k s (sc1 xs x 1) (sc1 xs x 2) hs
        exact l_run fu s hs1 hx q1 q2 q3 q4 (K _ q5)
      by_cases g7 : xs x.toNatClampNeg &&& 15 = (7 : Int32)
      · refine X_tsk rfl g7 rfl ?_
        obtain ⟨q1, q2, q3, q4, q5⟩ := h_look k s (sc1 xs x 1) hs
        exact l_look fu s hs1 hx q1 q3 q4 (K _ q5)
      by_cases g8 : xs x.toNatClampNeg &&& 15 = (8 : Int32)
      · refine X_tsk rfl g8 rfl ?_
        obtain ⟨q1, q2⟩ := h_number k s (sc1 xs x 1) hs
        exact l_number s hs1 hx (hthr _ _ hs).1 (fun ht => by
          obtain ⟨z1, z2, z3, z4, z5⟩ := q1 ht
          exact ⟨z1, z2, z3, z4, K _ z5⟩) (fun ht n u b1 b2 b3 b4 => by
          obtain ⟨z1, z2, z3⟩ := q2 ht n u b1 b2 b3 b4
          exact ⟨z1, z2, K _ z3⟩)
      by_cases g9 : xs x.toNatClampNeg &&& 15 = (9 : Int32)
      · refine X_tsk rfl g9 rfl ?_
        obtain ⟨q1, q2⟩ := h_real k s (sc1 xs x 1) hs
        exact l_real s hs1 hx (hthr _ _ hs).1 (fun ht => by
          obtain ⟨z1, z2, z3, z4, z5⟩ := q1 ht
          exact ⟨z1, z2, z3, z4, K _ z5⟩) (fun ht n u b1 b2 b3 b4 => by
          obtain ⟨z1, z2, z3⟩ := q2 ht n u b1 b2 b3 b4
          exact ⟨z1, z2, K _ z3⟩)
      by_cases g10 : xs x.toNatClampNeg &&& 15 = (10 : Int32)
      · refine X_tsk rfl g10 rfl ?_
        obtain ⟨q1, q2, q3, q4, q5⟩ := h_slot k s (sc1 xs x 1) (sc1 xs x 2) hs
        exact l_slot fu s hs1 hx q1 q3 q4 (K _ q5)
      by_cases g11 : xs x.toNatClampNeg &&& 15 = (11 : Int32)
      · refine X_tsk rfl g11 rfl ?_
        obtain ⟨w1, w2, q1, q2⟩ := h_member k s (sc1 xs x 1) (sc1 xs x 2) hs
        exact l_member s hs1 hx (hthr _ _ hs).1 w1 w2 (fun ht => by
          obtain ⟨z1, z2, z3, z4, z5⟩ := q1 ht
          exact ⟨z1, z2, z3, z4, K _ z5⟩) (fun ht n u b1 b2 b3 b4 => by
          obtain ⟨z1, z2, z3⟩ := q2 ht n u b1 b2 b3 b4
          exact ⟨z1, z2, K _ z3⟩)
      by_cases g12 : xs x.toNatClampNeg &&& 15 = (12 : Int32)
      · refine X_tsk rfl g12 rfl ?_
        obtain ⟨q1, q2, q3, q4, q5⟩ := h_same k s (sc1 xs x 1) (sc1 xs x 2) hs
        exact l_same fu s hs1 hx q1 q3 q4 (K _ q5)
      refine X_tsd rfl ((sw_out (0) 13 (by decide) (by decide) (fun j hj => by
        match j, hj with
        | 0, _ => exact g0
        | 1, _ => exact g1
        | 2, _ => exact g2
        | 3, _ => exact g3
        | 4, _ => exact g4
        | 5, _ => exact g5
        | 6, _ => exact g6
        | 7, _ => exact g7
        | 8, _ => exact g8
        | 9, _ => exact g9
        | 10, _ => exact g10
        | 11, _ => exact g11
        | 12, _ => exact g12
        | j + 13, hj => exact absurd hj (by omega))).imp id (fun h => by omega)) ?_
      exact K s (hthr _ _ hs).2
