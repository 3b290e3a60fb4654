/-! OP 29 -/
section WS
variable {G : AH} {T : Nat} {φ : Nat → Nat} {n u fu : Nat}
theorem q4 : f_M_by (f_M_realOf 1) (f_M_realOf 4) = 4598175219545276416 := by decide +kernel
theorem ws_go (hfu : 1000000 ≤ fu) : ∀ (d : Nat) (c r : St) (v : Nat) (w : Int32), RR G T φ n u c r → SZ c → (v ≤ n ∧ LVE φ v) → 11 ≤ (sA r 22 v).toInt → (sA r 22 v).toInt ≤ 15 → 1 ≤ w.toInt → w.toInt ≤ 31 → 33 ≤ d + w.toInt →
    WG G T φ n u c r (F_pweighs fu d c (po φ v) w) (F_weighs fu d r (nI v) w) ∧ W_pweighs fu d c (po φ v) w ∧ W_weighs fu d r (nI v) w
  | 0, c, r, v, w, h, hz, hv, k1, k2, w1, w2, hd => by omega
  | d + 1, c, r, v, w, h, hz, hv, k1, k2, w1, w2, hd => by
    have hb := h.bnd
    have v40 : v ≤ 40000 := by omega
    have ev : (nI v).toNatClampNeg = v := nN (by omega)
    show WG G T φ n u c r (f_Pa_weighs (F_pweighs fu d) fu c (po φ v) w) (f_M_weighs (F_weighs fu d) fu r (nI v) w) ∧ w_Pa_weighs (F_pweighs fu d) (W_pweighs fu d) fu c (po φ v) w ∧ w_M_weighs (F_weighs fu d) (W_weighs fu d) fu r (nI v) w
    unfold f_Pa_weighs f_M_weighs w_Pa_weighs w_M_weighs t_Pa_weighs_6
    rw [c2_le, show ((30 : Int32).toInt) = 30 from rfl]
    by_cases g : w.toInt ≤ 30
    · rw [dt g, cond_true, cond_true]
      obtain ⟨⟨l1, l2, l3, l4⟩, lb, ls, -⟩ := b1_led h hz
      by_cases st : (f_M_takes r 1).1 = 0
      · have sz := l2.z st
        rw [lb, st, show decide ((0 : Int32) = 0) = true from rfl]
        obtain ⟨c1, hc1⟩ : ∃ c1, c1 = (f_Le_burn c 1).2 := ⟨_, rfl⟩
        obtain ⟨r1, hr1⟩ : ∃ r1, r1 = (f_M_takes r 1).2 := ⟨_, rfl⟩
        rw [← hc1, ← hr1] at l1
        rw [← hc1] at l3 sz
        rw [← hr1] at l4
        rw [← hc1, ← hr1]
        have kk1 : 11 ≤ (sA r1 22 v).toInt := by rw [l4.2.2.1]; exact k1
        have kk2 : (sA r1 22 v).toInt ≤ 15 := by rw [l4.2.2.1]; exact k2
        have e11 := sub11 kk1 kk2
        obtain ⟨e1, e2, e3, e4, e5⟩ := p_prt l1.rt hv kk1 kk2
        have g0 := k_pos l1.rt (v := v) (by omega)
        obtain ⟨qq, pp, ww, xx, d1, d2, d3, d4, d5, d6, d7, d8, d9, d10, d11, d12⟩ := rd_prt l1.rt (show 1 ≤ v by omega) hv kk1 kk2
        have i1 := fd_ix l1 hv kk1 kk2 (hh := 1) (by decide) (by decide)
        have i3 := fd_ix l1 hv kk1 kk2 (hh := 3) (by decide) (by decide)
        have i0 : vp_in (sA r1 23 v) 40001 := by
          have hb1 := l1.bnd
          rw [tn_eq] at d12
          exact vp_of d11 (by omega)
        rw [show (1 : Int32).toNatClampNeg = 1 from rfl] at i1
        rw [show (3 : Int32).toNatClampNeg = 3 from rfl] at i3
        have led : ∀ {q : Int64 × St} {z : Int32 × St}, WG G T φ n u c1 r1 q z → WG G T φ n u c r q z := fun y => ⟨⟨y.1.1, y.1.2.1, l3.tr y.1.2.2.1, l4.tr y.1.2.2.2⟩, y.2⟩
        have fin : ∀ y, KP y → WG G T φ n u c1 r1 (y, c1) (0, pG r1 21 29 y) := fun y hy => ⟨⟨l1.rG y, ⟨sz.1, Or.inl ⟨rfl, sz.2⟩⟩, wC.rf c1, wR_G r1 y⟩, fun _ => ⟨rfl, hy⟩⟩
        unfold t_Pa_weighs_11 t_M_weighs_10 w_Pa_weighs_11 w_M_weighs_10
        rw [show cn1 .ne (b2i true) = true from rfl, cond_true, show cn1 .eq (0 : Int32) = true from rfl, cond_true, e5, ev, i1.1, d3, d2, q4, ← ofInt_realOf, ← product_times, ← sum_added]
        have gw : gL (sD c1) (po φ v) 2 = ww := by rw [e1]; exact gL_at d9 d1 rfl
        have gq : gI (sD c1) (po φ v) 1 = qq := by rw [e1]; exact gI_at d9 d1 rfl
        have gx : gR (sD c1) (po φ v) 4 = po φ xx := by rw [e1]; exact gR_at d9 d1 rfl
        rw [gw, gq, gx, c2_ne, c2_eq, e11, show ((2 : Int32).toInt) = 2 from rfl, show ((4 : Int32).toInt) = 4 from rfl]
        unfold t_M_weighs_51 t_M_weighs_111 w_M_weighs_51
        rw [c2_ne, e11, show ((4 : Int32).toInt) = 4 from rfl, i3.1, d6, lN_I]
        have xx40 : xx ≤ 40000 := by omega
        rw [n_ne xx40]
        by_cases g2 : (sA r1 22 v).toInt - 11 = 2
        · rw [cd_f (p := ¬ (sA r1 22 v).toInt - 11 = 2) (fun z => z g2), cd_f (p := ¬ (sA r1 22 v).toInt - 11 = 2) (fun z => z g2), dt (p := ¬ (sA r1 22 v).toInt - 11 = 4) (by omega), cond_true, df (p := ¬ (sA r1 22 v).toInt - 11 = 2) (fun z => z g2)]
          refine ⟨led (fin _ (kp_sum _ _)), ⟨fun _ => ⟨trivial, fun _ => ⟨e3, (fun z => nomatch z), fun _ => ⟨e3, e3, trivial⟩⟩, (fun z => nomatch z)⟩, (fun z => nomatch z)⟩, ⟨fun _ => ⟨trivial, fun _ => ⟨n_vp v40, n_vp v40, i1.2, (fun z => nomatch z), fun _ => ⟨i0, fun _ => trivial, (fun z => nomatch z)⟩⟩, (fun z => nomatch z)⟩, (fun z => nomatch z)⟩⟩
        · rw [cd_t (p := ¬ (sA r1 22 v).toInt - 11 = 2) g2, cd_t (p := ¬ (sA r1 22 v).toInt - 11 = 2) g2, dt (p := ¬ (sA r1 22 v).toInt - 11 = 2) g2]
          by_cases g4 : (sA r1 22 v).toInt - 11 = 4
          · rw [cd_t g4, df (p := ¬ (sA r1 22 v).toInt - 11 = 4) (fun z => z g4), cond_false, dt g4]
            by_cases gxx : xx = 0
            · rw [cd_f (fun z => z gxx), show Option.isNone (po φ xx) = true from by rw [gxx]; rfl, cond_true, df (p := ¬ xx = 0) (fun z => z gxx)]
              obtain ⟨a1, a2, a3, a4⟩ := fl_led l1 sz (k := 1) (by decide) (by decide)
              have hs : ¬ (f_M_fails r1 1).1 = 0 := by
                unfold f_M_fails f_M_fault t_M_fault_3
                cases (f_M_pays r1 8).1
                · exact (by decide : ¬ ((3 : Int32) = 0))
                · exact (by decide : ¬ ((1 : Int32) = 0))
              unfold t_Pa_weighs_40
              exact ⟨led ⟨⟨a1, a2, a3, a4⟩, fun z => absurd z hs⟩, ⟨fun _ => ⟨trivial, fun _ => ⟨e3, fun _ => ⟨e3, fun _ => ⟨e3, fun _ => ⟨w_fault c1 1, trivial⟩, (fun z => nomatch z)⟩, (fun z => nomatch z)⟩, (fun z => nomatch z)⟩, (fun z => nomatch z)⟩, (fun z => nomatch z)⟩, ⟨fun _ => ⟨trivial, fun _ => ⟨n_vp v40, n_vp v40, i1.2, fun _ => ⟨(fun z => nomatch z), fun _ => ⟨i3.2, (fun z => nomatch z), fun _ => ⟨w_fails r1 1, trivial⟩⟩⟩, (fun z => nomatch z)⟩, (fun z => nomatch z)⟩, (fun z => nomatch z)⟩⟩
            · have kx : (sA r1 22 xx).toInt = 10 := d8.resolve_left gxx
              rw [cd_t gxx, show Option.isNone (po φ xx) = false from by rw [po_s φ (by omega)]; rfl, cond_false, dt (p := ¬ xx = 0) gxx]
              have mb := (p_shl l1.rt d7 (Or.inr kx)).2.2.2.2.2.2.2.2.2
              obtain ⟨b9, f9, -, -, -, -, -, -, -, -, mz⟩ := rd_shl l1.rt (show 1 ≤ xx by omega) d7 (Or.inr kx)
              have hb1 := l1.bnd
              have ew := i_addy (x := w) (y := 1) rfl rfl (by rw [show ((1 : Int32).toInt) = 1 from rfl]; omega) (by rw [show ((1 : Int32).toInt) = 1 from rfl]; omega)
              rw [show ((1 : Int32).toInt) = 1 from rfl] at ew
              have ih := wl_go (fu := fu) (rec := F_pweighs fu d) (wrec := W_pweighs fu d) (rec' := F_weighs fu d) (wrec' := W_weighs fu d) (w := w) (fun c' r' m a1 a2 a3 a4 a5 => ws_go hfu d c' r' m (w + 1) a1 a2 a3 a4 a5 (by omega) (by omega) (by omega)) hv d7 (sA r1 24 xx).toNatClampNeg 0 c1 r1 0 ww l1 sz d4 kk1 kk2 kx gx (by omega) rfl fu fu (by omega) (by omega)
              obtain ⟨a1, a2, a3⟩ := ih
              exact ⟨led a1, ⟨fun _ => ⟨trivial, fun _ => ⟨e3, fun _ => ⟨e3, fun _ => ⟨e3, (fun z => nomatch z), fun _ => ⟨e3, a2⟩⟩, (fun z => nomatch z)⟩, (fun z => nomatch z)⟩, (fun z => nomatch z)⟩, (fun z => nomatch z)⟩, ⟨fun _ => ⟨trivial, fun _ => ⟨n_vp v40, n_vp v40, i1.2, fun _ => ⟨(fun z => nomatch z), fun _ => ⟨i3.2, fun _ => a3, (fun z => nomatch z)⟩⟩, (fun z => nomatch z)⟩, (fun z => nomatch z)⟩, (fun z => nomatch z)⟩⟩
          · rw [cd_f g4, dt (p := ¬ (sA r1 22 v).toInt - 11 = 4) g4, cond_true, df g4]
            exact ⟨led (fin _ d4), ⟨fun _ => ⟨trivial, fun _ => ⟨e3, fun _ => ⟨e3, (fun z => nomatch z), fun _ => ⟨e3, trivial⟩⟩, (fun z => nomatch z)⟩, (fun z => nomatch z)⟩, (fun z => nomatch z)⟩, ⟨fun _ => ⟨trivial, fun _ => ⟨n_vp v40, n_vp v40, i1.2, fun _ => ⟨fun _ => trivial, (fun z => nomatch z)⟩, (fun z => nomatch z)⟩, (fun z => nomatch z)⟩, (fun z => nomatch z)⟩⟩
      · have s2 : (f_M_takes r 1).1 = 2 := ls.resolve_left st
        rw [lb, s2, show decide ((2 : Int32) = 0) = false from rfl]
        unfold t_Pa_weighs_11 t_M_weighs_10
        rw [show cn1 .ne (b2i false) = false from rfl, cond_false, show cn1 .eq (2 : Int32) = false from rfl, cond_false]
        rw [s2] at l2
        exact ⟨⟨⟨l1, l2, l3, l4⟩, fun z => absurd (show (2 : Int32) = 0 from z) (by decide)⟩, ⟨fun _ => ⟨trivial, (fun z => nomatch z), fun _ => trivial⟩, (fun z => nomatch z)⟩, ⟨fun _ => ⟨trivial, (fun z => nomatch z), fun _ => trivial⟩, (fun z => nomatch z)⟩⟩
    · rw [df g, cond_false, cond_false]
      obtain ⟨a1, a2, a3, a4⟩ := fl_led h hz (k := 8) (by decide) (by decide)
      have hs : ¬ (f_M_fails r 8).1 = 0 := by
        unfold f_M_fails f_M_fault t_M_fault_3
        cases (f_M_pays r 8).1
        · exact (by decide : ¬ ((3 : Int32) = 0))
        · exact (by decide : ¬ ((1 : Int32) = 0))
      exact ⟨⟨⟨a1, a2, a3, a4⟩, fun z => absurd z hs⟩, ⟨(fun z => nomatch z), fun _ => ⟨w_fault c 8, trivial⟩⟩, ⟨(fun z => nomatch z), fun _ => ⟨w_fails r 8, trivial⟩⟩⟩
end WS
