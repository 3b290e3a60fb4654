/-! THE WHOLE: from call to call -/
def RF (N : Nat) (xs : Nat → Int32) (k : Nat) (s : St) : Prop := ∃ T, T + k ≤ 512 ∧ RL (hgv0 N xs) T s s
section FIN
variable {N : Nat} {xs : Nat → Int32}
theorem hgv_sc : hgv0 N xs am_sc = some (.inr (.inl (2, N, xs))) := by
  unfold hgv0
  rw [if_neg (by decide), if_pos rfl]
theorem hgv_ga : isG (hgv0 N xs) := if_pos rfl
theorem fin_call {k : Nat} {s : St} {f g : St → Int32 × St} {wf wg : St → Prop} (h : RF N xs (k + 1) s) (hp : ∀ T c r, RL (hgv0 N xs) T c r → PC (hgv0 N xs) T c r (f c) (g r) (wf c) (wg r)) : wf s ∧ isS N xs (f s).2 ∧ wg (f s).2 ∧ (f s).1 = (g (f s).2).1 ∧ RF N xs k (g (f s).2).2 := by
  obtain ⟨T, hT, h⟩ := h
  obtain ⟨w1, w2, w3, w4, w5⟩ := PC.glue hgv_sc h (hp T)
  exact ⟨w1, w2, w3, w4, T, by omega, w5⟩
theorem fin_feed : lk_feed (RF N xs) N xs 10000000 := fun k s a b c d e h => fin_call (f := fun s => f_H_feed 10000000 s a b c d e) (g := fun s => f_M_feed 10000000 s a b c d e) (wf := fun s => w_H_feed 10000000 s a b c d e) (wg := fun s => w_M_feed 10000000 s a b c d e) h (fun T c' r' hh => P_feed (by decide) hh a b c d e)
theorem fin_end : lk_end (RF N xs) N xs 10000000 := fun k s a h => fin_call (f := fun s => f_H_end s a) (g := fun s => f_M_end s a) (wf := fun s => w_H_end s a) (wg := fun s => w_M_end s a) h (fun T c' r' hh => P_end hh a)
theorem fin_patch : lk_patch (RF N xs) N xs 10000000 := fun k s a h => fin_call (f := fun s => f_H_patch 10000000 s a) (g := fun s => f_M_patch 10000000 s a) (wf := fun s => w_H_patch 10000000 s a) (wg := fun s => w_M_patch 10000000 s a) h (fun T c' r' hh => p_patch hgv_ga (by decide) hh a)
theorem fin_load : lk_load (RF N xs) N xs 10000000 := fun k s a h => fin_call (f := fun s => f_H_load 10000000 s a) (g := fun s => f_M_load 10000000 s a) (wf := fun s => w_H_load 10000000 s a) (wg := fun s => w_M_load 10000000 s a) h (fun T c' r' hh => P_load (by decide) hh a)
theorem fin_save : lk_save (RF N xs) N xs 10000000 := fun k s a h => fin_call (f := fun s => f_H_save 10000000 s a) (g := fun s => f_M_save 10000000 s a) (wf := fun s => w_H_save 10000000 s a) (wg := fun s => w_M_save 10000000 s a) h (fun T c' r' hh => P_save (by decide) hh a)
theorem fin_run : lk_run (RF N xs) N xs 10000000 := fun k s a b h => fin_call (f := fun s => f_H_run 10000000 s a b) (g := fun s => f_M_run 10000000 s a b) (wf := fun s => w_H_run 10000000 s a b) (wg := fun s => w_M_run 10000000 s a b) h (fun T c' r' hh => p_run (by decide) hh a b)
theorem fin_look {fu : Nat} : lk_look (RF N xs) N xs fu := fun k s a h => by
  obtain ⟨T, hT, h⟩ := h
  have h0 := h
  obtain ⟨φ, n, u, h1, h2, h3, h4, h5⟩ := h
  exact ⟨w_look_H s a, h0.gS hgv_sc, w_look_M s a, p_look h3 h4 h2.pt h1.2.1 h5 a, T, by omega, by rw [look_st]; exact h0.mv (cE_pI s 0 0 (by decide)).cF (mF_0 s 0)⟩
theorem fn_slot {fu : Nat} : lk_slot (RF N xs) N xs fu := fun k s a b h => by
  obtain ⟨T, hT, h⟩ := h
  obtain ⟨w1, w2, w3, w4⟩ := P_slot h a b
  exact ⟨w1, h.gS hgv_sc, w2, w3, T, by omega, by rw [w4]; exact h.mv (cE_pI s 0 0 (by decide)).cF (mF_0 s 0)⟩
theorem fin_same {fu : Nat} : lk_same (RF N xs) N xs fu := fun k s a b h => by
  obtain ⟨T, hT, h⟩ := h
  obtain ⟨w1, w2, w3, w4⟩ := P_same h a b
  exact ⟨w1, h.gS hgv_sc, w2, w3, T, by omega, by rw [w4]; exact h.mv (cE_pI s 0 0 (by decide)).cF (mF_0 s 0)⟩
theorem df_f {p : Prop} [Decidable p] (h : decide (¬ p) = false) : p := Decidable.not_not.mp (of_decide_eq_false h)
theorem df_t {p : Prop} [Decidable p] (h : decide (¬ p) = true) : ¬ p := of_decide_eq_true h
theorem fin_out : lk_out (RF N xs) N xs := fun k s a h => by
  obtain ⟨T, hT, h⟩ := h
  have h0 := h
  obtain ⟨φ, n', u', h1, h2, h3, h4, h5⟩ := h
  obtain ⟨o1, o2, o3, o4⟩ := h4
  rw [th_out_i]
  refine ⟨fun z => ?_, fun z => ?_, fun z n u n1 n2 u1 u2 => ?_⟩
  · have g := df_f z
    rw [o1] at g
    exact vp_of g.1 (by omega)
  · have g := df_f z
    rw [o1] at g
    obtain ⟨v, hv⟩ : ∃ v, v = Int32.toInt64 (sA s 4 (Int32.toNatClampNeg a) &&& 255) := ⟨_, rfl⟩
    obtain ⟨s1, hs1⟩ : ∃ s1, s1 = pB s 36 (vp_updL (sB s 36) (Int32.toNatClampNeg 0) v) := ⟨_, rfl⟩
    have hok := h0.ok v (r' := pI s1 21 0 0) (by rw [← hs1]; exact mF_0 s1 0) (by rw [← hs1]; exact cE_pI s1 0 0 (by decide))
    have e24 : sI s1 21 24 = sI s 21 24 := by rw [hs1]; rfl
    have e33 : sA s1 33 = sA s 33 := by rw [hs1]; rfl
    rw [← hv, ← hs1, out_M, e24, if_pos g, e33]
    refine ⟨?_, w_out_M (by rw [e24]; exact o3) a, rfl, ?_, T, by omega, hok.1⟩
    · rw [hs1]; exact h0.gS hgv_sc
    · rw [hok.2, hv, o4 _ (by rw [tn_eq]; omega)]
  · have g := df_t z
    rw [o1] at g
    obtain ⟨s1, hs1⟩ : ∃ s1, s1 = pQ s (sD s) n u := ⟨_, rfl⟩
    have e24 : sI s1 21 24 = sI s 21 24 := by rw [hs1]; rfl
    rw [← hs1, out_M, e24, if_neg g]
    exact ⟨w_out_M (by rw [e24]; exact o3) a, rfl, T + 1, by omega, h0.thr' (by omega) n1 n2 u1 u2 (by rw [← hs1]; exact mF_0 s1 1) (by rw [← hs1]; exact cE_pI s1 0 1 (by decide))⟩
theorem fin_number : lk_number (RF N xs) N xs := fun k s a h => by
  obtain ⟨T, hT, h⟩ := h
  have h0 := h
  obtain ⟨φ, n', u', h1, h2, h3, h4, h5⟩ := h
  have o1 := h1.1.1
  rw [th_num_i]
  refine ⟨fun z => ?_, fun z n u n1 n2 u1 u2 => ?_⟩
  · have g := df_f z
    obtain ⟨v, hv⟩ : ∃ v, v = Int32.toInt64 (sA s 9 (Int32.toNatClampNeg a)) := ⟨_, rfl⟩
    obtain ⟨s1, hs1⟩ : ∃ s1, s1 = pB s 36 (vp_updL (sB s 36) (Int32.toNatClampNeg 0) v) := ⟨_, rfl⟩
    have hok := h0.ok v (r' := pI s1 21 0 0) (by rw [← hs1]; exact mF_0 s1 0) (by rw [← hs1]; exact cE_pI s1 0 0 (by decide))
    have e28 : sA s1 28 = sA s 28 := by rw [hs1]; rfl
    rw [← hv, ← hs1, num_M, if_pos g, e28]
    refine ⟨?_, w_num_M s1 a, rfl, ?_, T, by omega, hok.1⟩
    · rw [hs1]; exact h0.gS hgv_sc
    · rw [hok.2, hv, o1 _ (by rw [tn_eq]; omega)]
  · have g := df_t z
    obtain ⟨s1, hs1⟩ : ∃ s1, s1 = pQ s (sD s) n u := ⟨_, rfl⟩
    rw [← hs1, num_M, if_neg g]
    exact ⟨w_num_M s1 a, rfl, T + 1, by omega, h0.thr' (by omega) n1 n2 u1 u2 (by rw [← hs1]; exact mF_0 s1 1) (by rw [← hs1]; exact cE_pI s1 0 1 (by decide))⟩
theorem fn_real : lk_real (RF N xs) N xs := fun k s a h => by
  obtain ⟨T, hT, h⟩ := h
  have h0 := h
  obtain ⟨φ, n', u', h1, h2, h3, h4, h5⟩ := h
  have o1 := h1.1.2
  rw [th_rea_i]
  refine ⟨fun z => ?_, fun z n u n1 n2 u1 u2 => ?_⟩
  · have g := df_f z
    obtain ⟨v, hv⟩ : ∃ v, v = sB s 10 (Int32.toNatClampNeg a) := ⟨_, rfl⟩
    obtain ⟨s1, hs1⟩ : ∃ s1, s1 = pB s 36 (vp_updL (sB s 36) (Int32.toNatClampNeg 0) v) := ⟨_, rfl⟩
    have hok := h0.ok v (r' := pI s1 21 0 0) (by rw [← hs1]; exact mF_0 s1 0) (by rw [← hs1]; exact cE_pI s1 0 0 (by decide))
    have e29 : sB s1 29 = sB s 29 := by rw [hs1]; rfl
    rw [← hv, ← hs1, rea_M, if_pos g, e29]
    refine ⟨?_, w_rea_M s1 a, rfl, ?_, T, by omega, hok.1⟩
    · rw [hs1]; exact h0.gS hgv_sc
    · rw [hok.2, hv, (o1 _ (by rw [tn_eq]; omega)).1]
  · have g := df_t z
    obtain ⟨s1, hs1⟩ : ∃ s1, s1 = pQ s (sD s) n u := ⟨_, rfl⟩
    rw [← hs1, rea_M, if_neg g]
    exact ⟨w_rea_M s1 a, rfl, T + 1, by omega, h0.thr' (by omega) n1 n2 u1 u2 (by rw [← hs1]; exact mF_0 s1 1) (by rw [← hs1]; exact cE_pI s1 0 1 (by decide))⟩
theorem fin_member : lk_member (RF N xs) N xs := fun k s a b h => by
  obtain ⟨T, hT, h⟩ := h
  obtain ⟨p1, p2, -⟩ := P_member h a b
  refine ⟨p1, fun z => (p2 z).1, fun z => ?_, fun z n u n1 n2 u1 u2 => ?_⟩
  · obtain ⟨v, hv⟩ : ∃ v, v = u_told s (th_sl s a) b := ⟨_, rfl⟩
    obtain ⟨s1, hs1⟩ : ∃ s1, s1 = pB s 36 (vp_updL (sB s 36) (Int32.toNatClampNeg 0) v) := ⟨_, rfl⟩
    have hok := h.ok v (r' := pI (pI s1 21 0 1) 21 0 0) (by rw [← hs1]; exact (mF_0 s1 1).tr (mF_0 _ 0)) (by rw [← hs1]; exact (cE_pI s1 0 1 (by decide)).tr (cE_pI _ 0 0 (by decide)))
    have m1 : mF s s1 := by rw [hs1]; exact ⟨fun _ _ => rfl, fun a _ h2 => ⟨rfl, if_neg (by omega)⟩⟩
    obtain ⟨-, q2, -⟩ := P_member (h.mv (cF.rf s) m1) a b
    obtain ⟨-, q3, q4⟩ := q2 z
    rw [← hv, ← hs1, q4, ← hv]
    refine ⟨?_, q3, rfl, hok.2, T, by omega, hok.1⟩
    rw [hs1]; exact h.gS hgv_sc
  · obtain ⟨s1, hs1⟩ : ∃ s1, s1 = pQ s (sD s) n u := ⟨_, rfl⟩
    have m1 : mF s s1 := by rw [hs1]; exact ⟨fun _ _ => rfl, fun _ _ _ => ⟨rfl, rfl⟩⟩
    obtain ⟨-, -, q2⟩ := P_member (h.mv (cF.rf s) m1) a b
    obtain ⟨q3, q4⟩ := q2 z
    rw [← hs1, q4]
    exact ⟨q3, rfl, T + 1, by omega, h.thr' (by omega) n1 n2 u1 u2 (by rw [← hs1]; exact mF_0 s1 1) (by rw [← hs1]; exact cE_pI s1 0 1 (by decide))⟩
theorem fin_0 (G : AH) : RL G 0 (st0 G) (st0 G) := by
  have z0 : (0 : Int) ≤ (0 : Int32).toInt := by decide
  have k0 : ∀ k : Nat, ¬ (k : Int) < (0 : Int32).toInt := fun k => by rw [show ((0 : Int32).toInt) = 0 from rfl]; omega
  refine ⟨fun _ => 0, 0, 0, ⟨⟨fun _ _ => rfl, fun _ _ => ⟨rfl, ?_⟩⟩, ⟨rfl, z0, show (0 : Int32).toInt ≤ 40000 by decide, rfl, Or.inl rfl⟩, ⟨rfl, z0, show (0 : Int32).toInt ≤ 20000 by decide⟩, ⟨⟨fun _ _ => rfl, rfl, rfl, fun t h1 h2 => absurd h2.1 (by omega), fun t t' h1 h2 h3 _ => absurd h3.1 (by omega)⟩, rfl, rfl, z0, z0⟩, fun k _ => ⟨0, ⟨Nat.le_refl _, LVE.z _⟩, rfl, rfl⟩, ⟨Nat.zero_le _, Nat.le_refl _, Nat.le_refl _, Nat.le_refl _⟩, fun _ _ => rfl⟩, ⟨fun _ => show (0 : Int32) = 0 &&& 255 by decide, fun p hp => ⟨rfl, z0, show (0 : Int32).toInt ≤ 200 by decide, 0, rfl⟩⟩, ⟨rfl, z0, show (0 : Int32).toInt ≤ 2000 by decide, fun k hk => absurd hk (k0 k)⟩, ⟨rfl, z0, show (0 : Int32).toInt ≤ 2000 by decide, fun k hk => absurd hk (k0 k)⟩, rfl, rfl, rfl⟩
  show f_M_kept 0 = 0
  decide
theorem fin_math : MATH := fun N xs _ => ⟨RF N xs, 10000000, ⟨fun k s h => by
  obtain ⟨T, hT, h⟩ := h
  exact h.gS hgv_sc, fun k s h => by
  obtain ⟨T, hT, h⟩ := h
  exact ⟨h.bd, T, by omega, h⟩, fin_feed, fin_end, fin_patch, fin_load, fin_save, fin_out, fin_run, fin_look, fin_number, fn_real, fn_slot, fin_member, fin_same⟩, 0, Nat.le_refl _, fin_0 _⟩
end FIN
