def hcl : List AE := [.inl (9, [vrf 1, vrf 2, vrf 5, vrf 8, vrf 12, vi0, vi0, vi0]), .inl (2, [vi0, vi0, vi0, vi0, vi0, vi0]), .inl (1, [vrf 3, vrf 4, vi0, vi0, vrf 1, vi0, vi0, vi0]), ay 2000, ay 2000, .inl (5, [vrf 6, vrf 7]), ay 3200, az 16, .inl (3, [vrf 9, vrf 10, vrf 11, vrf 6, vrf 1, vi0]), az 8, al 4, ar 16, .inl (0, [vrf 5, vrf 6, vrf 8, vrf 1, vrf 13, vrf 14, vrf 15, vrf 16, vrf 17, vrf 18, vrf 19, vrf 20, vi0, vi0]), az 132, az 132, az 132, az 132, az 132, az 132, ar 2112, ar 2112, .inl (10, [vi0, vrf 22, vrf 23, vrf 24, vrf 25, vrf 26, vi0, vi0, vi0, vi0, vi0, vi0, vi0, vi0, vi0, vi0, vrf 27, vrf 28, vrf 29, vrf 30, vrf 31, vrf 32, vrf 33, vi0, vi0, vi0, vi0, vrf 34, vrf 35, vl0, vi0, vi0]), az 40001, az 40001, az 40001, az 40001, al 40001, az 16, az 8, al 4, az 3200, az 16, az 2000, az 2000, az 2288, az 2288, al 1]
def st0 (h0 : AH) : St := (fun _ _ => 0, fun _ _ => 0, fun _ _ => 0, fun _ _ => 0, fun _ _ => none, h0, 37, 224162)
theorem hcl_at (h0 : AH) : ∀ q, q < 37 → hcl[q]? = fx (st0 h0) q := by
  intro q h
  match q, h with
  | 0, _ => rfl
  | 1, _ => rfl
  | 2, _ => rfl
  | 3, _ => rfl
  | 4, _ => rfl
  | 5, _ => rfl
  | 6, _ => rfl
  | 7, _ => rfl
  | 8, _ => rfl
  | 9, _ => rfl
  | 10, _ => rfl
  | 11, _ => rfl
  | 12, _ => rfl
  | 13, _ => rfl
  | 14, _ => rfl
  | 15, _ => rfl
  | 16, _ => rfl
  | 17, _ => rfl
  | 18, _ => rfl
  | 19, _ => rfl
  | 20, _ => rfl
  | 21, _ => rfl
  | 22, _ => rfl
  | 23, _ => rfl
  | 24, _ => rfl
  | 25, _ => rfl
  | 26, _ => rfl
  | 27, _ => rfl
  | 28, _ => rfl
  | 29, _ => rfl
  | 30, _ => rfl
  | 31, _ => rfl
  | 32, _ => rfl
  | 33, _ => rfl
  | 34, _ => rfl
  | 35, _ => rfl
  | 36, _ => rfl
  | k + 37, h => omega
theorem st0_hp (h0 : AH) : (hq 0 hcl h0, 37, 224162) = hp (st0 h0) := by
  unfold hp
  refine Prod.ext ?_ rfl
  funext q
  show hq 0 hcl h0 q = if q < 37 then fx (st0 h0) q else h0 q
  by_cases h : q < 37
  · rw [if_pos h, ← hcl_at h0 q h]
    unfold hq
    rw [if_neg (by omega), Nat.sub_zero]
    have hl : q < hcl.length := h
    rw [List.getElem?_eq_getElem hl]
  · rw [if_neg h]
    unfold hq
    rw [if_neg (by omega), Nat.sub_zero, List.getElem?_eq_none (show hcl.length ≤ q from Nat.le_of_not_lt h)]
theorem hq_nil (h0 : AH) : hq 0 [] h0 = h0 := by
  funext q
  unfold hq
  rw [if_neg (by omega)]
  rfl
theorem l_start {h0 : AH} (K : X m_L_law 1000 13 (LL 0) [] (hp (st0 h0)) QT) : X m_L_law 1000 0 (entL 8 [.inr (.inr (some am_sc))]) [] (h0, 0, 0) QT := by
  rw [← st0_hp] at K
  rw [show ((h0, 0, 0) : AP) = (hq 0 [] h0, 0, 0) from by rw [hq_nil]]
  refine X_ic (l1 := [.inl (9, [vn0, vn0, vn0, vn0, vn0, vi0, vi0, vi0])]) (u1 := 8) rfl rfl rfl (Nat.le_of_ble_eq_true rfl) (Nat.le_of_ble_eq_true rfl) rfl rfl ?_
  refine X_run 1 (i1 := 2) (L1 := [some (.inr (.inr (some am_sc))), none, none, none, none, none, none, none]) (st1 := [vrf 0, vrf 0]) rfl ?_
  refine X_calln m_H_init (As := []) (st := [vrf 0]) ok_H_init rfl rfl rfl rfl (Nat.le_of_ble_eq_true rfl) (Nat.le_of_ble_eq_true rfl) (i_H_init (d := 997) (h0 := h0)) ?_
  rintro _ _ ⟨rfl, rfl⟩
  show X _ _ 3 [some (.inr (.inr (some am_sc))), none, none, none, none, none, none, none] [vrf 0] (hq 0 [.inl (9, [vrf 1, vrf 2, vrf 5, vrf 8, vrf 12, vi0, vi0, vi0]), .inl (2, [vi0, vi0, vi0, vi0, vi0, vi0]), .inl (1, [vrf 3, vrf 4, vi0, vi0, vrf 1, vi0, vi0, vi0]), ay 2000, ay 2000, .inl (5, [vrf 6, vrf 7]), ay 3200, az 16, .inl (3, [vrf 9, vrf 10, vrf 11, vrf 6, vrf 1, vi0]), az 8, al 4, ar 16, .inl (0, [vrf 5, vrf 6, vrf 8, vrf 1, vrf 13, vrf 14, vrf 15, vrf 16, vrf 17, vrf 18, vrf 19, vrf 20, vi0, vi0]), az 132, az 132, az 132, az 132, az 132, az 132, ar 2112, ar 2112] h0, 21, 12304) _
  refine X_run 1 (i1 := 4) (L1 := [some (.inr (.inr (some am_sc))), some (vrf 0), none, none, none, none, none, none]) (st1 := []) rfl ?_
  refine X_ic (l1 := [.inl (9, [vrf 1, vrf 2, vrf 5, vrf 8, vrf 12, vi0, vi0, vi0]), .inl (2, [vi0, vi0, vi0, vi0, vi0, vi0]), .inl (1, [vrf 3, vrf 4, vi0, vi0, vrf 1, vi0, vi0, vi0]), ay 2000, ay 2000, .inl (5, [vrf 6, vrf 7]), ay 3200, az 16, .inl (3, [vrf 9, vrf 10, vrf 11, vrf 6, vrf 1, vi0]), az 8, al 4, ar 16, .inl (0, [vrf 5, vrf 6, vrf 8, vrf 1, vrf 13, vrf 14, vrf 15, vrf 16, vrf 17, vrf 18, vrf 19, vrf 20, vi0, vi0]), az 132, az 132, az 132, az 132, az 132, az 132, ar 2112, ar 2112, .inl (10, [vi0, vn0, vn0, vn0, vn0, vn0, vi0, vi0, vi0, vi0, vi0, vi0, vi0, vi0, vi0, vi0, vn0, vn0, vn0, vn0, vn0, vn0, vn0, vi0, vi0, vi0, vi0, vn0, vn0, vl0, vi0, vi0])]) (u1 := 12336) rfl rfl rfl (Nat.le_of_ble_eq_true rfl) (Nat.le_of_ble_eq_true rfl) rfl rfl ?_
  refine X_run 1 (i1 := 6) (L1 := [some (.inr (.inr (some am_sc))), some (vrf 0), none, none, none, none, none, none]) (st1 := [vrf 21, vrf 21]) rfl ?_
  have hc := i_M_init (d := 998) (h0 := hq 0 [.inl (9, [vrf 1, vrf 2, vrf 5, vrf 8, vrf 12, vi0, vi0, vi0]), .inl (2, [vi0, vi0, vi0, vi0, vi0, vi0]), .inl (1, [vrf 3, vrf 4, vi0, vi0, vrf 1, vi0, vi0, vi0]), ay 2000, ay 2000, .inl (5, [vrf 6, vrf 7]), ay 3200, az 16, .inl (3, [vrf 9, vrf 10, vrf 11, vrf 6, vrf 1, vi0]), az 8, al 4, ar 16, .inl (0, [vrf 5, vrf 6, vrf 8, vrf 1, vrf 13, vrf 14, vrf 15, vrf 16, vrf 17, vrf 18, vrf 19, vrf 20, vi0, vi0]), az 132, az 132, az 132, az 132, az 132, az 132, ar 2112, ar 2112] h0)
  rw [show (hq 21 [.inl (10, [vi0, vn0, vn0, vn0, vn0, vn0, vi0, vi0, vi0, vi0, vi0, vi0, vi0, vi0, vi0, vi0, vn0, vn0, vn0, vn0, vn0, vn0, vn0, vi0, vi0, vi0, vi0, vn0, vn0, vl0, vi0, vi0])] (hq 0 [.inl (9, [vrf 1, vrf 2, vrf 5, vrf 8, vrf 12, vi0, vi0, vi0]), .inl (2, [vi0, vi0, vi0, vi0, vi0, vi0]), .inl (1, [vrf 3, vrf 4, vi0, vi0, vrf 1, vi0, vi0, vi0]), ay 2000, ay 2000, .inl (5, [vrf 6, vrf 7]), ay 3200, az 16, .inl (3, [vrf 9, vrf 10, vrf 11, vrf 6, vrf 1, vi0]), az 8, al 4, ar 16, .inl (0, [vrf 5, vrf 6, vrf 8, vrf 1, vrf 13, vrf 14, vrf 15, vrf 16, vrf 17, vrf 18, vrf 19, vrf 20, vi0, vi0]), az 132, az 132, az 132, az 132, az 132, az 132, ar 2112, ar 2112] h0)) = hq 0 [.inl (9, [vrf 1, vrf 2, vrf 5, vrf 8, vrf 12, vi0, vi0, vi0]), .inl (2, [vi0, vi0, vi0, vi0, vi0, vi0]), .inl (1, [vrf 3, vrf 4, vi0, vi0, vrf 1, vi0, vi0, vi0]), ay 2000, ay 2000, .inl (5, [vrf 6, vrf 7]), ay 3200, az 16, .inl (3, [vrf 9, vrf 10, vrf 11, vrf 6, vrf 1, vi0]), az 8, al 4, ar 16, .inl (0, [vrf 5, vrf 6, vrf 8, vrf 1, vrf 13, vrf 14, vrf 15, vrf 16, vrf 17, vrf 18, vrf 19, vrf 20, vi0, vi0]), az 132, az 132, az 132, az 132, az 132, az 132, ar 2112, ar 2112, .inl (10, [vi0, vn0, vn0, vn0, vn0, vn0, vi0, vi0, vi0, vi0, vi0, vi0, vi0, vi0, vi0, vi0, vn0, vn0, vn0, vn0, vn0, vn0, vn0, vi0, vi0, vi0, vi0, vn0, vn0, vl0, vi0, vi0])] h0 from hq_app 0 [.inl (9, [vrf 1, vrf 2, vrf 5, vrf 8, vrf 12, vi0, vi0, vi0]), .inl (2, [vi0, vi0, vi0, vi0, vi0, vi0]), .inl (1, [vrf 3, vrf 4, vi0, vi0, vrf 1, vi0, vi0, vi0]), ay 2000, ay 2000, .inl (5, [vrf 6, vrf 7]), ay 3200, az 16, .inl (3, [vrf 9, vrf 10, vrf 11, vrf 6, vrf 1, vi0]), az 8, al 4, ar 16, .inl (0, [vrf 5, vrf 6, vrf 8, vrf 1, vrf 13, vrf 14, vrf 15, vrf 16, vrf 17, vrf 18, vrf 19, vrf 20, vi0, vi0]), az 132, az 132, az 132, az 132, az 132, az 132, ar 2112, ar 2112] [.inl (10, [vi0, vn0, vn0, vn0, vn0, vn0, vi0, vi0, vi0, vi0, vi0, vi0, vi0, vi0, vi0, vi0, vn0, vn0, vn0, vn0, vn0, vn0, vn0, vi0, vi0, vi0, vi0, vn0, vn0, vl0, vi0, vi0])] h0, show (hq 21 [.inl (10, [vi0, vrf 22, vrf 23, vrf 24, vrf 25, vrf 26, vi0, vi0, vi0, vi0, vi0, vi0, vi0, vi0, vi0, vi0, vrf 27, vrf 28, vrf 29, vrf 30, vrf 31, vrf 32, vrf 33, vi0, vi0, vi0, vi0, vrf 34, vrf 35, vl0, vi0, vi0]), az 40001, az 40001, az 40001, az 40001, al 40001, az 16, az 8, al 4, az 3200, az 16, az 2000, az 2000, az 2288, az 2288] (hq 0 [.inl (9, [vrf 1, vrf 2, vrf 5, vrf 8, vrf 12, vi0, vi0, vi0]), .inl (2, [vi0, vi0, vi0, vi0, vi0, vi0]), .inl (1, [vrf 3, vrf 4, vi0, vi0, vrf 1, vi0, vi0, vi0]), ay 2000, ay 2000, .inl (5, [vrf 6, vrf 7]), ay 3200, az 16, .inl (3, [vrf 9, vrf 10, vrf 11, vrf 6, vrf 1, vi0]), az 8, al 4, ar 16, .inl (0, [vrf 5, vrf 6, vrf 8, vrf 1, vrf 13, vrf 14, vrf 15, vrf 16, vrf 17, vrf 18, vrf 19, vrf 20, vi0, vi0]), az 132, az 132, az 132, az 132, az 132, az 132, ar 2112, ar 2112] h0)) = hq 0 [.inl (9, [vrf 1, vrf 2, vrf 5, vrf 8, vrf 12, vi0, vi0, vi0]), .inl (2, [vi0, vi0, vi0, vi0, vi0, vi0]), .inl (1, [vrf 3, vrf 4, vi0, vi0, vrf 1, vi0, vi0, vi0]), ay 2000, ay 2000, .inl (5, [vrf 6, vrf 7]), ay 3200, az 16, .inl (3, [vrf 9, vrf 10, vrf 11, vrf 6, vrf 1, vi0]), az 8, al 4, ar 16, .inl (0, [vrf 5, vrf 6, vrf 8, vrf 1, vrf 13, vrf 14, vrf 15, vrf 16, vrf 17, vrf 18, vrf 19, vrf 20, vi0, vi0]), az 132, az 132, az 132, az 132, az 132, az 132, ar 2112, ar 2112, .inl (10, [vi0, vrf 22, vrf 23, vrf 24, vrf 25, vrf 26, vi0, vi0, vi0, vi0, vi0, vi0, vi0, vi0, vi0, vi0, vrf 27, vrf 28, vrf 29, vrf 30, vrf 31, vrf 32, vrf 33, vi0, vi0, vi0, vi0, vrf 34, vrf 35, vl0, vi0, vi0]), az 40001, az 40001, az 40001, az 40001, al 40001, az 16, az 8, al 4, az 3200, az 16, az 2000, az 2000, az 2288, az 2288] h0 from hq_app 0 [.inl (9, [vrf 1, vrf 2, vrf 5, vrf 8, vrf 12, vi0, vi0, vi0]), .inl (2, [vi0, vi0, vi0, vi0, vi0, vi0]), .inl (1, [vrf 3, vrf 4, vi0, vi0, vrf 1, vi0, vi0, vi0]), ay 2000, ay 2000, .inl (5, [vrf 6, vrf 7]), ay 3200, az 16, .inl (3, [vrf 9, vrf 10, vrf 11, vrf 6, vrf 1, vi0]), az 8, al 4, ar 16, .inl (0, [vrf 5, vrf 6, vrf 8, vrf 1, vrf 13, vrf 14, vrf 15, vrf 16, vrf 17, vrf 18, vrf 19, vrf 20, vi0, vi0]), az 132, az 132, az 132, az 132, az 132, az 132, ar 2112, ar 2112] [.inl (10, [vi0, vrf 22, vrf 23, vrf 24, vrf 25, vrf 26, vi0, vi0, vi0, vi0, vi0, vi0, vi0, vi0, vi0, vi0, vrf 27, vrf 28, vrf 29, vrf 30, vrf 31, vrf 32, vrf 33, vi0, vi0, vi0, vi0, vrf 34, vrf 35, vl0, vi0, vi0]), az 40001, az 40001, az 40001, az 40001, al 40001, az 16, az 8, al 4, az 3200, az 16, az 2000, az 2000, az 2288, az 2288] h0] at hc
  refine X_calln m_M_init (As := []) (st := [vrf 21]) ok_M_init rfl rfl rfl rfl (Nat.le_of_ble_eq_true rfl) (Nat.le_of_ble_eq_true rfl) hc ?_
  rintro _ _ ⟨rfl, rfl⟩
  show X _ _ 7 [some (.inr (.inr (some am_sc))), some (vrf 0), none, none, none, none, none, none] [vrf 21] (hq 0 [.inl (9, [vrf 1, vrf 2, vrf 5, vrf 8, vrf 12, vi0, vi0, vi0]), .inl (2, [vi0, vi0, vi0, vi0, vi0, vi0]), .inl (1, [vrf 3, vrf 4, vi0, vi0, vrf 1, vi0, vi0, vi0]), ay 2000, ay 2000, .inl (5, [vrf 6, vrf 7]), ay 3200, az 16, .inl (3, [vrf 9, vrf 10, vrf 11, vrf 6, vrf 1, vi0]), az 8, al 4, ar 16, .inl (0, [vrf 5, vrf 6, vrf 8, vrf 1, vrf 13, vrf 14, vrf 15, vrf 16, vrf 17, vrf 18, vrf 19, vrf 20, vi0, vi0]), az 132, az 132, az 132, az 132, az 132, az 132, ar 2112, ar 2112, .inl (10, [vi0, vrf 22, vrf 23, vrf 24, vrf 25, vrf 26, vi0, vi0, vi0, vi0, vi0, vi0, vi0, vi0, vi0, vi0, vrf 27, vrf 28, vrf 29, vrf 30, vrf 31, vrf 32, vrf 33, vi0, vi0, vi0, vi0, vrf 34, vrf 35, vl0, vi0, vi0]), az 40001, az 40001, az 40001, az 40001, al 40001, az 16, az 8, al 4, az 3200, az 16, az 2000, az 2000, az 2288, az 2288] h0, 36, 224161) _
  clear hc
  refine X_run 2 (i1 := 9) (L1 := [some (.inr (.inr (some am_sc))), some (vrf 0), some (vrf 21), none, none, none, none, none]) (st1 := [.inl (1 : Int32)]) rfl ?_
  refine X_ia (l1 := hcl) (u1 := 224162) (N := 1) (e := al 1) rfl (by decide) rfl rfl rfl (Nat.le_of_ble_eq_true rfl) (Nat.le_of_ble_eq_true rfl) rfl rfl ?_
  refine X_run 3 (i1 := 13) (L1 := LL 0) (st1 := []) rfl ?_
  exact K
