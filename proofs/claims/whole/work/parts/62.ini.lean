/-! CONSTRUCTORS: the heap as a list of cells from address b on -/
def hq (b : Nat) (l : List AE) (h0 : AH) : AH := fun q => if q < b then h0 q else match l[q - b]? with
  | some e => some e
  | none => h0 q
theorem hq_at {b a : Nat} {l : List AE} {h0 : AH} {e : AE} (hb : b ≤ a) (h : l[a - b]? = some e) : hq b l h0 a = some e := by
  unfold hq
  rw [if_neg (by omega), h]
theorem hq_lo {b a : Nat} {l : List AE} {h0 : AH} (hb : a < b) : hq b l h0 a = h0 a := if_pos hb
theorem hq_push (b : Nat) (l : List AE) (h0 : AH) (e : AE) : hup (hq b l h0) (b + l.length) e = hq b (l ++ [e]) h0 := by
  funext q
  unfold hup hq
  by_cases h : q = b + l.length
  · subst h
    rw [if_pos rfl, if_neg (by omega), Nat.add_sub_cancel_left, List.getElem?_append_right (Nat.le_refl _), Nat.sub_self]
    rfl
  · rw [if_neg h]
    by_cases h2 : q < b
    · rw [if_pos h2, if_pos h2]
    · rw [if_neg h2, if_neg h2]
      by_cases h3 : q - b < l.length
      · rw [List.getElem?_append_left h3]
      · rw [List.getElem?_eq_none (by omega), List.getElem?_eq_none (by rw [List.length_append]; simp; omega)]
theorem hq_set {b a : Nat} {l : List AE} (h0 : AH) {e : AE} (hb : b ≤ a) (hl : a - b < l.length) : hup (hq b l h0) a e = hq b (l.set (a - b) e) h0 := by
  funext q
  unfold hup hq
  by_cases h : q = a
  · subst h
    rw [if_pos rfl, if_neg (by omega), List.getElem?_set_self hl]
  · rw [if_neg h]
    by_cases h2 : q < b
    · rw [if_pos h2, if_pos h2]
    · rw [if_neg h2, if_neg h2, List.getElem?_set_ne (by omega)]
theorem hq_app (b : Nat) (p l : List AE) (h0 : AH) : hq (b + p.length) l (hq b p h0) = hq b (p ++ l) h0 := by
  funext q
  unfold hq
  by_cases h1 : q < b
  · rw [if_pos (by omega), if_pos h1, if_pos h1]
  · rw [if_neg h1]
    by_cases h2 : q < b + p.length
    · rw [if_pos h2, if_neg h1, List.getElem?_append_left (by omega)]
    · rw [if_neg h2, List.getElem?_append_right (by omega), show q - (b + p.length) = q - b - p.length by omega, List.getElem?_eq_none (show p.length ≤ q - b by omega)]
      rw [if_neg h1]
section XI
variable {m : MI} {d i : Nat} {L : AL} {st : List AV} {Q : Option AV → AP → Prop} {pc n b k u u1 : Nat} {ps : List Nat} {l l1 : List AE} {h0 : AH}
theorem X_ic {N : Nat} {C : String} {T : u_T} (hq1 : (mi_cd m)[i]? = some (pc, .new n, ps)) (hc : am_cl[n]? = some (C, T, N)) (hk : b + l.length = k) (h1 : k + 1 ≤ 601024) (h2 : u + N ≤ 7293034) (he : l ++ [.inl (n, dfs n N)] = l1) (hu : u + N = u1) (kk : X m d (i + 1) L (.inr (.inr (some k)) :: st) (hq b l1 h0, k + 1, u1) Q) : X m d i L st (hq b l h0, k, u) Q := by
  subst hk; subst he; subst hu
  refine X_new hq1 hc h1 h2 ?_
  show X m d (i + 1) L _ (hup (hq b l h0) (b + l.length) _, _, _) Q
  rw [hq_push]
  exact kk
theorem X_ia {t : ArrayType} {e : AE} {z : Int32} {N : Nat} (hq1 : (mi_cd m)[i]? = some (pc, .newarray t, ps)) (hz : ¬ z < 0) (hN : z.toNatClampNeg = N) (he : nae t N = some e) (hk : b + l.length = k) (h1 : k + 1 ≤ 601024) (h2 : u + N ≤ 7293034) (hl1 : l ++ [e] = l1) (hu : u + N = u1) (kk : X m d (i + 1) L (.inr (.inr (some k)) :: st) (hq b l1 h0, k + 1, u1) Q) : X m d i L (.inl z :: st) (hq b l h0, k, u) Q := by
  subst hk; subst hl1; subst hu
  refine X_newa hq1 hz hN he h1 h2 ?_
  show X m d (i + 1) L _ (hup (hq b l h0) (b + l.length) _, _, _) Q
  rw [hq_push]
  exact kk
theorem X_ir {z : Int32} {N : Nat} (hq1 : (mi_cd m)[i]? = some (pc, .anewarray n, ps)) (hz : ¬ z < 0) (hN : z.toNatClampNeg = N) (hk : b + l.length = k) (h1 : k + 1 ≤ 601024) (h2 : u + N ≤ 7293034) (hl1 : l ++ [.inr (.inr (.inr (N, fun _ => none)))] = l1) (hu : u + N = u1) (kk : X m d (i + 1) L (.inr (.inr (some k)) :: st) (hq b l1 h0, k + 1, u1) Q) : X m d i L (.inl z :: st) (hq b l h0, k, u) Q := by
  subst hk; subst hl1; subst hu
  refine X_anew hq1 hz hN h1 h2 ?_
  show X m d (i + 1) L _ (hup (hq b l h0) (b + l.length) _, _, _) Q
  rw [hq_push]
  exact kk
theorem X_ip {a : Nat} {fs : List AV} {v : AV} (hq1 : (mi_cd m)[i]? = some (pc, .putfield n, ps)) (hb : b ≤ a) (ha : l[a - b]? = some (.inl (n / 64, fs))) (hv : vfit (am_ty (n / 64) (n % 64)) v = true) (hl1 : l.set (a - b) (.inl (n / 64, fs.set (n % 64) v)) = l1) (kk : X m d (i + 1) L st (hq b l1 h0, k, u) Q) : X m d i L (v :: .inr (.inr (some a)) :: st) (hq b l h0, k, u) Q := by
  subst hl1
  refine X_putf hq1 (hq_at hb ha) hv ?_
  show X m d (i + 1) L st (hup (hq b l h0) a _, _) Q
  rw [hq_set h0 hb (List.getElem?_eq_some_iff.mp ha).1]
  exact kk
theorem X_ig {a : Nat} {fs : List AV} {v : AV} (hq1 : (mi_cd m)[i]? = some (pc, .getfield n, ps)) (hb : b ≤ a) (ha : l[a - b]? = some (.inl (n / 64, fs))) (hv : fs[n % 64]? = some v) (kk : X m d (i + 1) L (v :: st) (hq b l h0, k, u) Q) : X m d i L (.inr (.inr (some a)) :: st) (hq b l h0, k, u) Q := X_getf hq1 (hq_at hb ha) hv kk
theorem X_il {a : Nat} {fs : List AV} {v : AV} (hq1 : (mi_cd m)[i]? = some (pc, .getfield n, ps)) (hb : a < b) (ha : h0 a = some (.inl (n / 64, fs))) (hv : fs[n % 64]? = some v) (kk : X m d (i + 1) L (v :: st) (hq b l h0, k, u) Q) : X m d i L (.inr (.inr (some a)) :: st) (hq b l h0, k, u) Q := X_getf hq1 ((hq_lo hb).trans ha) hv kk
end XI
abbrev az (n : Nat) : AE := .inr (.inl (0, n, fun _ => 0))
abbrev ay (n : Nat) : AE := .inr (.inl (1, n, fun _ => 0))
abbrev al (n : Nat) : AE := .inr (.inr (.inl (n, fun _ => 0)))
abbrev ar (n : Nat) : AE := .inr (.inr (.inr (n, fun _ => none)))
abbrev vi0 : AV := .inl 0
abbrev vl0 : AV := .inr (.inl 0)
abbrev vn0 : AV := .inr (.inr none)
abbrev vrf (a : Nat) : AV := .inr (.inr (some a))
theorem i_Le_init {d : Nat} {h0 : AH} : X m_Le_init (d + 1) 0 (entL 1 [vrf 1]) [] (hq 1 [.inl (2, [vi0, vi0, vi0, vi0, vi0, vi0])] h0, 2, 14) (fun r P1 => r = none ∧ P1 = (hq 1 [.inl (2, [vi0, vi0, vi0, vi0, vi0, vi0])] h0, 2, 14)) := by
  refine X_run 1 (i1 := 1) (L1 := [some (vrf 1)]) (st1 := [vrf 1]) rfl ?_
  refine X_obj rfl (Nat.le_of_ble_eq_true rfl) (Nat.le_of_ble_eq_true rfl) rfl ?_
  exact X_ret rfl rfl ⟨rfl, rfl⟩
theorem i_Fo_init {d : Nat} {h0 : AH} : X m_Fo_init (d + 1) 0 (entL 2 [vrf 2, vrf 1]) [] (hq 2 [.inl (1, [vn0, vn0, vi0, vi0, vn0, vi0, vi0, vi0])] h0, 3, 22) (fun r P1 => r = none ∧ P1 = (hq 2 [.inl (1, [vrf 3, vrf 4, vi0, vi0, vrf 1, vi0, vi0, vi0]), ay 2000, ay 2000] h0, 5, 4022)) := by
  refine X_run 1 (i1 := 1) (L1 := [some (vrf 2), some (vrf 1)]) (st1 := [vrf 2]) rfl ?_
  refine X_obj rfl (Nat.le_of_ble_eq_true rfl) (Nat.le_of_ble_eq_true rfl) rfl ?_
  refine X_run 2 (i1 := 4) (L1 := [some (vrf 2), some (vrf 1)]) (st1 := [.inl (2000 : Int32), vrf 2]) rfl ?_
  refine X_ia (l1 := [.inl (1, [vn0, vn0, vi0, vi0, vn0, vi0, vi0, vi0]), ay 2000]) (u1 := 2022) (N := 2000) (e := ay 2000) rfl (by decide) rfl rfl rfl (Nat.le_of_ble_eq_true rfl) (Nat.le_of_ble_eq_true rfl) rfl rfl ?_
  refine X_ip (l1 := [.inl (1, [vrf 3, vn0, vi0, vi0, vn0, vi0, vi0, vi0]), ay 2000]) rfl (Nat.le_of_ble_eq_true rfl) rfl rfl rfl ?_
  refine X_run 2 (i1 := 8) (L1 := [some (vrf 2), some (vrf 1)]) (st1 := [.inl (2000 : Int32), vrf 2]) rfl ?_
  refine X_ia (l1 := [.inl (1, [vrf 3, vn0, vi0, vi0, vn0, vi0, vi0, vi0]), ay 2000, ay 2000]) (u1 := 4022) (N := 2000) (e := ay 2000) rfl (by decide) rfl rfl rfl (Nat.le_of_ble_eq_true rfl) (Nat.le_of_ble_eq_true rfl) rfl rfl ?_
  refine X_ip (l1 := [.inl (1, [vrf 3, vrf 4, vi0, vi0, vn0, vi0, vi0, vi0]), ay 2000, ay 2000]) rfl (Nat.le_of_ble_eq_true rfl) rfl rfl rfl ?_
  refine X_run 2 (i1 := 12) (L1 := [some (vrf 2), some (vrf 1)]) (st1 := [vrf 1, vrf 2]) rfl ?_
  refine X_ip (l1 := [.inl (1, [vrf 3, vrf 4, vi0, vi0, vrf 1, vi0, vi0, vi0]), ay 2000, ay 2000]) rfl (Nat.le_of_ble_eq_true rfl) rfl rfl rfl ?_
  exact X_ret rfl rfl ⟨rfl, rfl⟩
theorem i_Pt_init {d : Nat} {h0 : AH} : X m_Pt_init (d + 1) 0 (entL 1 [vrf 5]) [] (hq 5 [.inl (5, [vn0, vn0])] h0, 6, 4024) (fun r P1 => r = none ∧ P1 = (hq 5 [.inl (5, [vrf 6, vrf 7]), ay 3200, az 16] h0, 8, 7240)) := by
  refine X_run 1 (i1 := 1) (L1 := [some (vrf 5)]) (st1 := [vrf 5]) rfl ?_
  refine X_obj rfl (Nat.le_of_ble_eq_true rfl) (Nat.le_of_ble_eq_true rfl) rfl ?_
  refine X_run 2 (i1 := 4) (L1 := [some (vrf 5)]) (st1 := [.inl (3200 : Int32), vrf 5]) rfl ?_
  refine X_ia (l1 := [.inl (5, [vn0, vn0]), ay 3200]) (u1 := 7224) (N := 3200) (e := ay 3200) rfl (by decide) rfl rfl rfl (Nat.le_of_ble_eq_true rfl) (Nat.le_of_ble_eq_true rfl) rfl rfl ?_
  refine X_ip (l1 := [.inl (5, [vrf 6, vn0]), ay 3200]) rfl (Nat.le_of_ble_eq_true rfl) rfl rfl rfl ?_
  refine X_run 2 (i1 := 8) (L1 := [some (vrf 5)]) (st1 := [.inl (16 : Int32), vrf 5]) rfl ?_
  refine X_ia (l1 := [.inl (5, [vrf 6, vn0]), ay 3200, az 16]) (u1 := 7240) (N := 16) (e := az 16) rfl (by decide) rfl rfl rfl (Nat.le_of_ble_eq_true rfl) (Nat.le_of_ble_eq_true rfl) rfl rfl ?_
  refine X_ip (l1 := [.inl (5, [vrf 6, vrf 7]), ay 3200, az 16]) rfl (Nat.le_of_ble_eq_true rfl) rfl rfl rfl ?_
  exact X_ret rfl rfl ⟨rfl, rfl⟩
theorem i_Op_init {d : Nat} {h0 : AH} : X m_Op_init (d + 1) 0 (entL 3 [vrf 8, vrf 6, vrf 1]) [] (hq 8 [.inl (3, [vn0, vn0, vn0, vn0, vn0, vi0])] h0, 9, 7246) (fun r P1 => r = none ∧ P1 = (hq 8 [.inl (3, [vrf 9, vrf 10, vrf 11, vrf 6, vrf 1, vi0]), az 8, al 4, ar 16] h0, 12, 7274)) := by
  refine X_run 1 (i1 := 1) (L1 := [some (vrf 8), some (vrf 6), some (vrf 1)]) (st1 := [vrf 8]) rfl ?_
  refine X_obj rfl (Nat.le_of_ble_eq_true rfl) (Nat.le_of_ble_eq_true rfl) rfl ?_
  refine X_run 2 (i1 := 4) (L1 := [some (vrf 8), some (vrf 6), some (vrf 1)]) (st1 := [.inl (8 : Int32), vrf 8]) rfl ?_
  refine X_ia (l1 := [.inl (3, [vn0, vn0, vn0, vn0, vn0, vi0]), az 8]) (u1 := 7254) (N := 8) (e := az 8) rfl (by decide) rfl rfl rfl (Nat.le_of_ble_eq_true rfl) (Nat.le_of_ble_eq_true rfl) rfl rfl ?_
  refine X_ip (l1 := [.inl (3, [vrf 9, vn0, vn0, vn0, vn0, vi0]), az 8]) rfl (Nat.le_of_ble_eq_true rfl) rfl rfl rfl ?_
  refine X_run 2 (i1 := 8) (L1 := [some (vrf 8), some (vrf 6), some (vrf 1)]) (st1 := [.inl (4 : Int32), vrf 8]) rfl ?_
  refine X_ia (l1 := [.inl (3, [vrf 9, vn0, vn0, vn0, vn0, vi0]), az 8, al 4]) (u1 := 7258) (N := 4) (e := al 4) rfl (by decide) rfl rfl rfl (Nat.le_of_ble_eq_true rfl) (Nat.le_of_ble_eq_true rfl) rfl rfl ?_
  refine X_ip (l1 := [.inl (3, [vrf 9, vrf 10, vn0, vn0, vn0, vi0]), az 8, al 4]) rfl (Nat.le_of_ble_eq_true rfl) rfl rfl rfl ?_
  refine X_run 2 (i1 := 12) (L1 := [some (vrf 8), some (vrf 6), some (vrf 1)]) (st1 := [.inl (16 : Int32), vrf 8]) rfl ?_
  refine X_ir (l1 := [.inl (3, [vrf 9, vrf 10, vn0, vn0, vn0, vi0]), az 8, al 4, ar 16]) (u1 := 7274) (N := 16) rfl (by decide) rfl rfl (Nat.le_of_ble_eq_true rfl) (Nat.le_of_ble_eq_true rfl) rfl rfl ?_
  refine X_ip (l1 := [.inl (3, [vrf 9, vrf 10, vrf 11, vn0, vn0, vi0]), az 8, al 4, ar 16]) rfl (Nat.le_of_ble_eq_true rfl) rfl rfl rfl ?_
  refine X_run 2 (i1 := 16) (L1 := [some (vrf 8), some (vrf 6), some (vrf 1)]) (st1 := [vrf 6, vrf 8]) rfl ?_
  refine X_ip (l1 := [.inl (3, [vrf 9, vrf 10, vrf 11, vrf 6, vn0, vi0]), az 8, al 4, ar 16]) rfl (Nat.le_of_ble_eq_true rfl) rfl rfl rfl ?_
  refine X_run 2 (i1 := 19) (L1 := [some (vrf 8), some (vrf 6), some (vrf 1)]) (st1 := [vrf 1, vrf 8]) rfl ?_
  refine X_ip (l1 := [.inl (3, [vrf 9, vrf 10, vrf 11, vrf 6, vrf 1, vi0]), az 8, al 4, ar 16]) rfl (Nat.le_of_ble_eq_true rfl) rfl rfl rfl ?_
  exact X_ret rfl rfl ⟨rfl, rfl⟩
theorem i_En_init {d : Nat} {h0 : AH} (hP : h0 5 = some (.inl (5, [vrf 6, vrf 7]))) : X m_En_init (d + 1) 0 (entL 4 [vrf 12, vrf 5, vrf 8, vrf 1]) [] (hq 12 [.inl (0, [vn0, vn0, vn0, vn0, vn0, vn0, vn0, vn0, vn0, vn0, vn0, vn0, vi0, vi0])] h0, 13, 7288) (fun r P1 => r = none ∧ P1 = (hq 12 [.inl (0, [vrf 5, vrf 6, vrf 8, vrf 1, vrf 13, vrf 14, vrf 15, vrf 16, vrf 17, vrf 18, vrf 19, vrf 20, vi0, vi0]), az 132, az 132, az 132, az 132, az 132, az 132, ar 2112, ar 2112] h0, 21, 12304)) := by
  refine X_run 1 (i1 := 1) (L1 := [some (vrf 12), some (vrf 5), some (vrf 8), some (vrf 1)]) (st1 := [vrf 12]) rfl ?_
  refine X_obj rfl (Nat.le_of_ble_eq_true rfl) (Nat.le_of_ble_eq_true rfl) rfl ?_
  refine X_run 2 (i1 := 4) (L1 := [some (vrf 12), some (vrf 5), some (vrf 8), some (vrf 1)]) (st1 := [.inl (132 : Int32), vrf 12]) rfl ?_
  refine X_ia (l1 := [.inl (0, [vn0, vn0, vn0, vn0, vn0, vn0, vn0, vn0, vn0, vn0, vn0, vn0, vi0, vi0]), az 132]) (u1 := 7420) (N := 132) (e := az 132) rfl (by decide) rfl rfl rfl (Nat.le_of_ble_eq_true rfl) (Nat.le_of_ble_eq_true rfl) rfl rfl ?_
  refine X_ip (l1 := [.inl (0, [vn0, vn0, vn0, vn0, vrf 13, vn0, vn0, vn0, vn0, vn0, vn0, vn0, vi0, vi0]), az 132]) rfl (Nat.le_of_ble_eq_true rfl) rfl rfl rfl ?_
  refine X_run 2 (i1 := 8) (L1 := [some (vrf 12), some (vrf 5), some (vrf 8), some (vrf 1)]) (st1 := [.inl (132 : Int32), vrf 12]) rfl ?_
  refine X_ia (l1 := [.inl (0, [vn0, vn0, vn0, vn0, vrf 13, vn0, vn0, vn0, vn0, vn0, vn0, vn0, vi0, vi0]), az 132, az 132]) (u1 := 7552) (N := 132) (e := az 132) rfl (by decide) rfl rfl rfl (Nat.le_of_ble_eq_true rfl) (Nat.le_of_ble_eq_true rfl) rfl rfl ?_
  refine X_ip (l1 := [.inl (0, [vn0, vn0, vn0, vn0, vrf 13, vrf 14, vn0, vn0, vn0, vn0, vn0, vn0, vi0, vi0]), az 132, az 132]) rfl (Nat.le_of_ble_eq_true rfl) rfl rfl rfl ?_
  refine X_run 2 (i1 := 12) (L1 := [some (vrf 12), some (vrf 5), some (vrf 8), some (vrf 1)]) (st1 := [.inl (132 : Int32), vrf 12]) rfl ?_
  refine X_ia (l1 := [.inl (0, [vn0, vn0, vn0, vn0, vrf 13, vrf 14, vn0, vn0, vn0, vn0, vn0, vn0, vi0, vi0]), az 132, az 132, az 132]) (u1 := 7684) (N := 132) (e := az 132) rfl (by decide) rfl rfl rfl (Nat.le_of_ble_eq_true rfl) (Nat.le_of_ble_eq_true rfl) rfl rfl ?_
  refine X_ip (l1 := [.inl (0, [vn0, vn0, vn0, vn0, vrf 13, vrf 14, vrf 15, vn0, vn0, vn0, vn0, vn0, vi0, vi0]), az 132, az 132, az 132]) rfl (Nat.le_of_ble_eq_true rfl) rfl rfl rfl ?_
  refine X_run 2 (i1 := 16) (L1 := [some (vrf 12), some (vrf 5), some (vrf 8), some (vrf 1)]) (st1 := [.inl (132 : Int32), vrf 12]) rfl ?_
  refine X_ia (l1 := [.inl (0, [vn0, vn0, vn0, vn0, vrf 13, vrf 14, vrf 15, vn0, vn0, vn0, vn0, vn0, vi0, vi0]), az 132, az 132, az 132, az 132]) (u1 := 7816) (N := 132) (e := az 132) rfl (by decide) rfl rfl rfl (Nat.le_of_ble_eq_true rfl) (Nat.le_of_ble_eq_true rfl) rfl rfl ?_
  refine X_ip (l1 := [.inl (0, [vn0, vn0, vn0, vn0, vrf 13, vrf 14, vrf 15, vrf 16, vn0, vn0, vn0, vn0, vi0, vi0]), az 132, az 132, az 132, az 132]) rfl (Nat.le_of_ble_eq_true rfl) rfl rfl rfl ?_
  refine X_run 2 (i1 := 20) (L1 := [some (vrf 12), some (vrf 5), some (vrf 8), some (vrf 1)]) (st1 := [.inl (132 : Int32), vrf 12]) rfl ?_
  refine X_ia (l1 := [.inl (0, [vn0, vn0, vn0, vn0, vrf 13, vrf 14, vrf 15, vrf 16, vn0, vn0, vn0, vn0, vi0, vi0]), az 132, az 132, az 132, az 132, az 132]) (u1 := 7948) (N := 132) (e := az 132) rfl (by decide) rfl rfl rfl (Nat.le_of_ble_eq_true rfl) (Nat.le_of_ble_eq_true rfl) rfl rfl ?_
  refine X_ip (l1 := [.inl (0, [vn0, vn0, vn0, vn0, vrf 13, vrf 14, vrf 15, vrf 16, vrf 17, vn0, vn0, vn0, vi0, vi0]), az 132, az 132, az 132, az 132, az 132]) rfl (Nat.le_of_ble_eq_true rfl) rfl rfl rfl ?_
  refine X_run 2 (i1 := 24) (L1 := [some (vrf 12), some (vrf 5), some (vrf 8), some (vrf 1)]) (st1 := [.inl (132 : Int32), vrf 12]) rfl ?_
  refine X_ia (l1 := [.inl (0, [vn0, vn0, vn0, vn0, vrf 13, vrf 14, vrf 15, vrf 16, vrf 17, vn0, vn0, vn0, vi0, vi0]), az 132, az 132, az 132, az 132, az 132, az 132]) (u1 := 8080) (N := 132) (e := az 132) rfl (by decide) rfl rfl rfl (Nat.le_of_ble_eq_true rfl) (Nat.le_of_ble_eq_true rfl) rfl rfl ?_
  refine X_ip (l1 := [.inl (0, [vn0, vn0, vn0, vn0, vrf 13, vrf 14, vrf 15, vrf 16, vrf 17, vrf 18, vn0, vn0, vi0, vi0]), az 132, az 132, az 132, az 132, az 132, az 132]) rfl (Nat.le_of_ble_eq_true rfl) rfl rfl rfl ?_
  refine X_run 2 (i1 := 28) (L1 := [some (vrf 12), some (vrf 5), some (vrf 8), some (vrf 1)]) (st1 := [.inl (2112 : Int32), vrf 12]) rfl ?_
  refine X_ir (l1 := [.inl (0, [vn0, vn0, vn0, vn0, vrf 13, vrf 14, vrf 15, vrf 16, vrf 17, vrf 18, vn0, vn0, vi0, vi0]), az 132, az 132, az 132, az 132, az 132, az 132, ar 2112]) (u1 := 10192) (N := 2112) rfl (by decide) rfl rfl (Nat.le_of_ble_eq_true rfl) (Nat.le_of_ble_eq_true rfl) rfl rfl ?_
  refine X_ip (l1 := [.inl (0, [vn0, vn0, vn0, vn0, vrf 13, vrf 14, vrf 15, vrf 16, vrf 17, vrf 18, vrf 19, vn0, vi0, vi0]), az 132, az 132, az 132, az 132, az 132, az 132, ar 2112]) rfl (Nat.le_of_ble_eq_true rfl) rfl rfl rfl ?_
  refine X_run 2 (i1 := 32) (L1 := [some (vrf 12), some (vrf 5), some (vrf 8), some (vrf 1)]) (st1 := [.inl (2112 : Int32), vrf 12]) rfl ?_
  refine X_ir (l1 := [.inl (0, [vn0, vn0, vn0, vn0, vrf 13, vrf 14, vrf 15, vrf 16, vrf 17, vrf 18, vrf 19, vn0, vi0, vi0]), az 132, az 132, az 132, az 132, az 132, az 132, ar 2112, ar 2112]) (u1 := 12304) (N := 2112) rfl (by decide) rfl rfl (Nat.le_of_ble_eq_true rfl) (Nat.le_of_ble_eq_true rfl) rfl rfl ?_
  refine X_ip (l1 := [.inl (0, [vn0, vn0, vn0, vn0, vrf 13, vrf 14, vrf 15, vrf 16, vrf 17, vrf 18, vrf 19, vrf 20, vi0, vi0]), az 132, az 132, az 132, az 132, az 132, az 132, ar 2112, ar 2112]) rfl (Nat.le_of_ble_eq_true rfl) rfl rfl rfl ?_
  refine X_run 2 (i1 := 36) (L1 := [some (vrf 12), some (vrf 5), some (vrf 8), some (vrf 1)]) (st1 := [vrf 5, vrf 12]) rfl ?_
  refine X_ip (l1 := [.inl (0, [vrf 5, vn0, vn0, vn0, vrf 13, vrf 14, vrf 15, vrf 16, vrf 17, vrf 18, vrf 19, vrf 20, vi0, vi0]), az 132, az 132, az 132, az 132, az 132, az 132, ar 2112, ar 2112]) rfl (Nat.le_of_ble_eq_true rfl) rfl rfl rfl ?_
  refine X_run 2 (i1 := 39) (L1 := [some (vrf 12), some (vrf 5), some (vrf 8), some (vrf 1)]) (st1 := [vrf 5, vrf 12]) rfl ?_
  refine X_il (v := vrf 6) rfl (Nat.le_of_ble_eq_true rfl) hP rfl ?_
  refine X_ip (l1 := [.inl (0, [vrf 5, vrf 6, vn0, vn0, vrf 13, vrf 14, vrf 15, vrf 16, vrf 17, vrf 18, vrf 19, vrf 20, vi0, vi0]), az 132, az 132, az 132, az 132, az 132, az 132, ar 2112, ar 2112]) rfl (Nat.le_of_ble_eq_true rfl) rfl rfl rfl ?_
  refine X_run 2 (i1 := 43) (L1 := [some (vrf 12), some (vrf 5), some (vrf 8), some (vrf 1)]) (st1 := [vrf 8, vrf 12]) rfl ?_
  refine X_ip (l1 := [.inl (0, [vrf 5, vrf 6, vrf 8, vn0, vrf 13, vrf 14, vrf 15, vrf 16, vrf 17, vrf 18, vrf 19, vrf 20, vi0, vi0]), az 132, az 132, az 132, az 132, az 132, az 132, ar 2112, ar 2112]) rfl (Nat.le_of_ble_eq_true rfl) rfl rfl rfl ?_
  refine X_run 2 (i1 := 46) (L1 := [some (vrf 12), some (vrf 5), some (vrf 8), some (vrf 1)]) (st1 := [vrf 1, vrf 12]) rfl ?_
  refine X_ip (l1 := [.inl (0, [vrf 5, vrf 6, vrf 8, vrf 1, vrf 13, vrf 14, vrf 15, vrf 16, vrf 17, vrf 18, vrf 19, vrf 20, vi0, vi0]), az 132, az 132, az 132, az 132, az 132, az 132, ar 2112, ar 2112]) rfl (Nat.le_of_ble_eq_true rfl) rfl rfl rfl ?_
  exact X_ret rfl rfl ⟨rfl, rfl⟩
theorem i_H_init {d : Nat} {h0 : AH} : X m_H_init (d + 2) 0 (entL 1 [vrf 0]) [] (hq 0 [.inl (9, [vn0, vn0, vn0, vn0, vn0, vi0, vi0, vi0])] h0, 1, 8) (fun r P1 => r = none ∧ P1 = (hq 0 [.inl (9, [vrf 1, vrf 2, vrf 5, vrf 8, vrf 12, vi0, vi0, vi0]), .inl (2, [vi0, vi0, vi0, vi0, vi0, vi0]), .inl (1, [vrf 3, vrf 4, vi0, vi0, vrf 1, vi0, vi0, vi0]), ay 2000, ay 2000, .inl (5, [vrf 6, vrf 7]), ay 3200, az 16, .inl (3, [vrf 9, vrf 10, vrf 11, vrf 6, vrf 1, vi0]), az 8, al 4, ar 16, .inl (0, [vrf 5, vrf 6, vrf 8, vrf 1, vrf 13, vrf 14, vrf 15, vrf 16, vrf 17, vrf 18, vrf 19, vrf 20, vi0, vi0]), az 132, az 132, az 132, az 132, az 132, az 132, ar 2112, ar 2112] h0, 21, 12304)) := by
  refine X_run 1 (i1 := 1) (L1 := [some (vrf 0)]) (st1 := [vrf 0]) rfl ?_
  refine X_obj rfl (Nat.le_of_ble_eq_true rfl) (Nat.le_of_ble_eq_true rfl) rfl ?_
  refine X_run 1 (i1 := 3) (L1 := [some (vrf 0)]) (st1 := [vrf 0]) rfl ?_
  refine X_ic (l1 := [.inl (9, [vn0, vn0, vn0, vn0, vn0, vi0, vi0, vi0]), .inl (2, [vi0, vi0, vi0, vi0, vi0, vi0])]) (u1 := 14) rfl rfl rfl (Nat.le_of_ble_eq_true rfl) (Nat.le_of_ble_eq_true rfl) rfl rfl ?_
  refine X_run 1 (i1 := 5) (L1 := [some (vrf 0)]) (st1 := [vrf 1, vrf 1, vrf 0]) rfl ?_
  have hc := i_Le_init (d := d) (h0 := hq 0 [.inl (9, [vn0, vn0, vn0, vn0, vn0, vi0, vi0, vi0])] h0)
  rw [show (hq 1 [.inl (2, [vi0, vi0, vi0, vi0, vi0, vi0])] (hq 0 [.inl (9, [vn0, vn0, vn0, vn0, vn0, vi0, vi0, vi0])] h0)) = hq 0 [.inl (9, [vn0, vn0, vn0, vn0, vn0, vi0, vi0, vi0]), .inl (2, [vi0, vi0, vi0, vi0, vi0, vi0])] h0 from hq_app 0 [.inl (9, [vn0, vn0, vn0, vn0, vn0, vi0, vi0, vi0])] [.inl (2, [vi0, vi0, vi0, vi0, vi0, vi0])] h0] at hc
  refine X_calln m_Le_init (As := []) (st := [vrf 1, vrf 0]) ok_Le_init rfl rfl rfl rfl (Nat.le_of_ble_eq_true rfl) (Nat.le_of_ble_eq_true rfl) hc ?_
  rintro _ _ ⟨rfl, rfl⟩
  show X _ _ 6 [some (vrf 0)] [vrf 1, vrf 0] (hq 0 [.inl (9, [vn0, vn0, vn0, vn0, vn0, vi0, vi0, vi0]), .inl (2, [vi0, vi0, vi0, vi0, vi0, vi0])] h0, 2, 14) _
  clear hc
  refine X_ip (l1 := [.inl (9, [vrf 1, vn0, vn0, vn0, vn0, vi0, vi0, vi0]), .inl (2, [vi0, vi0, vi0, vi0, vi0, vi0])]) rfl (Nat.le_of_ble_eq_true rfl) rfl rfl rfl ?_
  refine X_run 1 (i1 := 8) (L1 := [some (vrf 0)]) (st1 := [vrf 0]) rfl ?_
  refine X_ic (l1 := [.inl (9, [vrf 1, vn0, vn0, vn0, vn0, vi0, vi0, vi0]), .inl (2, [vi0, vi0, vi0, vi0, vi0, vi0]), .inl (1, [vn0, vn0, vi0, vi0, vn0, vi0, vi0, vi0])]) (u1 := 22) rfl rfl rfl (Nat.le_of_ble_eq_true rfl) (Nat.le_of_ble_eq_true rfl) rfl rfl ?_
  refine X_run 2 (i1 := 11) (L1 := [some (vrf 0)]) (st1 := [vrf 0, vrf 2, vrf 2, vrf 0]) rfl ?_
  refine X_ig (v := vrf 1) rfl (Nat.le_of_ble_eq_true rfl) rfl rfl ?_
  have hc := i_Fo_init (d := d) (h0 := hq 0 [.inl (9, [vrf 1, vn0, vn0, vn0, vn0, vi0, vi0, vi0]), .inl (2, [vi0, vi0, vi0, vi0, vi0, vi0])] h0)
  rw [show (hq 2 [.inl (1, [vn0, vn0, vi0, vi0, vn0, vi0, vi0, vi0])] (hq 0 [.inl (9, [vrf 1, vn0, vn0, vn0, vn0, vi0, vi0, vi0]), .inl (2, [vi0, vi0, vi0, vi0, vi0, vi0])] h0)) = hq 0 [.inl (9, [vrf 1, vn0, vn0, vn0, vn0, vi0, vi0, vi0]), .inl (2, [vi0, vi0, vi0, vi0, vi0, vi0]), .inl (1, [vn0, vn0, vi0, vi0, vn0, vi0, vi0, vi0])] h0 from hq_app 0 [.inl (9, [vrf 1, vn0, vn0, vn0, vn0, vi0, vi0, vi0]), .inl (2, [vi0, vi0, vi0, vi0, vi0, vi0])] [.inl (1, [vn0, vn0, vi0, vi0, vn0, vi0, vi0, vi0])] h0, show (hq 2 [.inl (1, [vrf 3, vrf 4, vi0, vi0, vrf 1, vi0, vi0, vi0]), ay 2000, ay 2000] (hq 0 [.inl (9, [vrf 1, vn0, vn0, vn0, vn0, vi0, vi0, vi0]), .inl (2, [vi0, vi0, vi0, vi0, vi0, vi0])] h0)) = hq 0 [.inl (9, [vrf 1, vn0, vn0, vn0, vn0, vi0, vi0, vi0]), .inl (2, [vi0, vi0, vi0, vi0, vi0, vi0]), .inl (1, [vrf 3, vrf 4, vi0, vi0, vrf 1, vi0, vi0, vi0]), ay 2000, ay 2000] h0 from hq_app 0 [.inl (9, [vrf 1, vn0, vn0, vn0, vn0, vi0, vi0, vi0]), .inl (2, [vi0, vi0, vi0, vi0, vi0, vi0])] [.inl (1, [vrf 3, vrf 4, vi0, vi0, vrf 1, vi0, vi0, vi0]), ay 2000, ay 2000] h0] at hc
  refine X_calln m_Fo_init (As := [vrf 1]) (st := [vrf 2, vrf 0]) ok_Fo_init rfl rfl rfl rfl (Nat.le_of_ble_eq_true rfl) (Nat.le_of_ble_eq_true rfl) hc ?_
  rintro _ _ ⟨rfl, rfl⟩
  show X _ _ 13 [some (vrf 0)] [vrf 2, vrf 0] (hq 0 [.inl (9, [vrf 1, vn0, vn0, vn0, vn0, vi0, vi0, vi0]), .inl (2, [vi0, vi0, vi0, vi0, vi0, vi0]), .inl (1, [vrf 3, vrf 4, vi0, vi0, vrf 1, vi0, vi0, vi0]), ay 2000, ay 2000] h0, 5, 4022) _
  clear hc
  refine X_ip (l1 := [.inl (9, [vrf 1, vrf 2, vn0, vn0, vn0, vi0, vi0, vi0]), .inl (2, [vi0, vi0, vi0, vi0, vi0, vi0]), .inl (1, [vrf 3, vrf 4, vi0, vi0, vrf 1, vi0, vi0, vi0]), ay 2000, ay 2000]) rfl (Nat.le_of_ble_eq_true rfl) rfl rfl rfl ?_
  refine X_run 1 (i1 := 15) (L1 := [some (vrf 0)]) (st1 := [vrf 0]) rfl ?_
  refine X_ic (l1 := [.inl (9, [vrf 1, vrf 2, vn0, vn0, vn0, vi0, vi0, vi0]), .inl (2, [vi0, vi0, vi0, vi0, vi0, vi0]), .inl (1, [vrf 3, vrf 4, vi0, vi0, vrf 1, vi0, vi0, vi0]), ay 2000, ay 2000, .inl (5, [vn0, vn0])]) (u1 := 4024) rfl rfl rfl (Nat.le_of_ble_eq_true rfl) (Nat.le_of_ble_eq_true rfl) rfl rfl ?_
  refine X_run 1 (i1 := 17) (L1 := [some (vrf 0)]) (st1 := [vrf 5, vrf 5, vrf 0]) rfl ?_
  have hc := i_Pt_init (d := d) (h0 := hq 0 [.inl (9, [vrf 1, vrf 2, vn0, vn0, vn0, vi0, vi0, vi0]), .inl (2, [vi0, vi0, vi0, vi0, vi0, vi0]), .inl (1, [vrf 3, vrf 4, vi0, vi0, vrf 1, vi0, vi0, vi0]), ay 2000, ay 2000] h0)
  rw [show (hq 5 [.inl (5, [vn0, vn0])] (hq 0 [.inl (9, [vrf 1, vrf 2, vn0, vn0, vn0, vi0, vi0, vi0]), .inl (2, [vi0, vi0, vi0, vi0, vi0, vi0]), .inl (1, [vrf 3, vrf 4, vi0, vi0, vrf 1, vi0, vi0, vi0]), ay 2000, ay 2000] h0)) = hq 0 [.inl (9, [vrf 1, vrf 2, vn0, vn0, vn0, vi0, vi0, vi0]), .inl (2, [vi0, vi0, vi0, vi0, vi0, vi0]), .inl (1, [vrf 3, vrf 4, vi0, vi0, vrf 1, vi0, vi0, vi0]), ay 2000, ay 2000, .inl (5, [vn0, vn0])] h0 from hq_app 0 [.inl (9, [vrf 1, vrf 2, vn0, vn0, vn0, vi0, vi0, vi0]), .inl (2, [vi0, vi0, vi0, vi0, vi0, vi0]), .inl (1, [vrf 3, vrf 4, vi0, vi0, vrf 1, vi0, vi0, vi0]), ay 2000, ay 2000] [.inl (5, [vn0, vn0])] h0, show (hq 5 [.inl (5, [vrf 6, vrf 7]), ay 3200, az 16] (hq 0 [.inl (9, [vrf 1, vrf 2, vn0, vn0, vn0, vi0, vi0, vi0]), .inl (2, [vi0, vi0, vi0, vi0, vi0, vi0]), .inl (1, [vrf 3, vrf 4, vi0, vi0, vrf 1, vi0, vi0, vi0]), ay 2000, ay 2000] h0)) = hq 0 [.inl (9, [vrf 1, vrf 2, vn0, vn0, vn0, vi0, vi0, vi0]), .inl (2, [vi0, vi0, vi0, vi0, vi0, vi0]), .inl (1, [vrf 3, vrf 4, vi0, vi0, vrf 1, vi0, vi0, vi0]), ay 2000, ay 2000, .inl (5, [vrf 6, vrf 7]), ay 3200, az 16] h0 from hq_app 0 [.inl (9, [vrf 1, vrf 2, vn0, vn0, vn0, vi0, vi0, vi0]), .inl (2, [vi0, vi0, vi0, vi0, vi0, vi0]), .inl (1, [vrf 3, vrf 4, vi0, vi0, vrf 1, vi0, vi0, vi0]), ay 2000, ay 2000] [.inl (5, [vrf 6, vrf 7]), ay 3200, az 16] h0] at hc
  refine X_calln m_Pt_init (As := []) (st := [vrf 5, vrf 0]) ok_Pt_init rfl rfl rfl rfl (Nat.le_of_ble_eq_true rfl) (Nat.le_of_ble_eq_true rfl) hc ?_
  rintro _ _ ⟨rfl, rfl⟩
  show X _ _ 18 [some (vrf 0)] [vrf 5, vrf 0] (hq 0 [.inl (9, [vrf 1, vrf 2, vn0, vn0, vn0, vi0, vi0, vi0]), .inl (2, [vi0, vi0, vi0, vi0, vi0, vi0]), .inl (1, [vrf 3, vrf 4, vi0, vi0, vrf 1, vi0, vi0, vi0]), ay 2000, ay 2000, .inl (5, [vrf 6, vrf 7]), ay 3200, az 16] h0, 8, 7240) _
  clear hc
  refine X_ip (l1 := [.inl (9, [vrf 1, vrf 2, vrf 5, vn0, vn0, vi0, vi0, vi0]), .inl (2, [vi0, vi0, vi0, vi0, vi0, vi0]), .inl (1, [vrf 3, vrf 4, vi0, vi0, vrf 1, vi0, vi0, vi0]), ay 2000, ay 2000, .inl (5, [vrf 6, vrf 7]), ay 3200, az 16]) rfl (Nat.le_of_ble_eq_true rfl) rfl rfl rfl ?_
  refine X_run 1 (i1 := 20) (L1 := [some (vrf 0)]) (st1 := [vrf 0]) rfl ?_
  refine X_ic (l1 := [.inl (9, [vrf 1, vrf 2, vrf 5, vn0, vn0, vi0, vi0, vi0]), .inl (2, [vi0, vi0, vi0, vi0, vi0, vi0]), .inl (1, [vrf 3, vrf 4, vi0, vi0, vrf 1, vi0, vi0, vi0]), ay 2000, ay 2000, .inl (5, [vrf 6, vrf 7]), ay 3200, az 16, .inl (3, [vn0, vn0, vn0, vn0, vn0, vi0])]) (u1 := 7246) rfl rfl rfl (Nat.le_of_ble_eq_true rfl) (Nat.le_of_ble_eq_true rfl) rfl rfl ?_
  refine X_run 2 (i1 := 23) (L1 := [some (vrf 0)]) (st1 := [vrf 0, vrf 8, vrf 8, vrf 0]) rfl ?_
  refine X_ig (v := vrf 5) rfl (Nat.le_of_ble_eq_true rfl) rfl rfl ?_
  refine X_ig (v := vrf 6) rfl (Nat.le_of_ble_eq_true rfl) rfl rfl ?_
  refine X_run 1 (i1 := 26) (L1 := [some (vrf 0)]) (st1 := [vrf 0, vrf 6, vrf 8, vrf 8, vrf 0]) rfl ?_
  refine X_ig (v := vrf 1) rfl (Nat.le_of_ble_eq_true rfl) rfl rfl ?_
  have hc := i_Op_init (d := d) (h0 := hq 0 [.inl (9, [vrf 1, vrf 2, vrf 5, vn0, vn0, vi0, vi0, vi0]), .inl (2, [vi0, vi0, vi0, vi0, vi0, vi0]), .inl (1, [vrf 3, vrf 4, vi0, vi0, vrf 1, vi0, vi0, vi0]), ay 2000, ay 2000, .inl (5, [vrf 6, vrf 7]), ay 3200, az 16] h0)
  rw [show (hq 8 [.inl (3, [vn0, vn0, vn0, vn0, vn0, vi0])] (hq 0 [.inl (9, [vrf 1, vrf 2, vrf 5, vn0, vn0, vi0, vi0, vi0]), .inl (2, [vi0, vi0, vi0, vi0, vi0, vi0]), .inl (1, [vrf 3, vrf 4, vi0, vi0, vrf 1, vi0, vi0, vi0]), ay 2000, ay 2000, .inl (5, [vrf 6, vrf 7]), ay 3200, az 16] h0)) = hq 0 [.inl (9, [vrf 1, vrf 2, vrf 5, vn0, vn0, vi0, vi0, vi0]), .inl (2, [vi0, vi0, vi0, vi0, vi0, vi0]), .inl (1, [vrf 3, vrf 4, vi0, vi0, vrf 1, vi0, vi0, vi0]), ay 2000, ay 2000, .inl (5, [vrf 6, vrf 7]), ay 3200, az 16, .inl (3, [vn0, vn0, vn0, vn0, vn0, vi0])] h0 from hq_app 0 [.inl (9, [vrf 1, vrf 2, vrf 5, vn0, vn0, vi0, vi0, vi0]), .inl (2, [vi0, vi0, vi0, vi0, vi0, vi0]), .inl (1, [vrf 3, vrf 4, vi0, vi0, vrf 1, vi0, vi0, vi0]), ay 2000, ay 2000, .inl (5, [vrf 6, vrf 7]), ay 3200, az 16] [.inl (3, [vn0, vn0, vn0, vn0, vn0, vi0])] h0, show (hq 8 [.inl (3, [vrf 9, vrf 10, vrf 11, vrf 6, vrf 1, vi0]), az 8, al 4, ar 16] (hq 0 [.inl (9, [vrf 1, vrf 2, vrf 5, vn0, vn0, vi0, vi0, vi0]), .inl (2, [vi0, vi0, vi0, vi0, vi0, vi0]), .inl (1, [vrf 3, vrf 4, vi0, vi0, vrf 1, vi0, vi0, vi0]), ay 2000, ay 2000, .inl (5, [vrf 6, vrf 7]), ay 3200, az 16] h0)) = hq 0 [.inl (9, [vrf 1, vrf 2, vrf 5, vn0, vn0, vi0, vi0, vi0]), .inl (2, [vi0, vi0, vi0, vi0, vi0, vi0]), .inl (1, [vrf 3, vrf 4, vi0, vi0, vrf 1, vi0, vi0, vi0]), ay 2000, ay 2000, .inl (5, [vrf 6, vrf 7]), ay 3200, az 16, .inl (3, [vrf 9, vrf 10, vrf 11, vrf 6, vrf 1, vi0]), az 8, al 4, ar 16] h0 from hq_app 0 [.inl (9, [vrf 1, vrf 2, vrf 5, vn0, vn0, vi0, vi0, vi0]), .inl (2, [vi0, vi0, vi0, vi0, vi0, vi0]), .inl (1, [vrf 3, vrf 4, vi0, vi0, vrf 1, vi0, vi0, vi0]), ay 2000, ay 2000, .inl (5, [vrf 6, vrf 7]), ay 3200, az 16] [.inl (3, [vrf 9, vrf 10, vrf 11, vrf 6, vrf 1, vi0]), az 8, al 4, ar 16] h0] at hc
  refine X_calln m_Op_init (As := [vrf 6, vrf 1]) (st := [vrf 8, vrf 0]) ok_Op_init rfl rfl rfl rfl (Nat.le_of_ble_eq_true rfl) (Nat.le_of_ble_eq_true rfl) hc ?_
  rintro _ _ ⟨rfl, rfl⟩
  show X _ _ 28 [some (vrf 0)] [vrf 8, vrf 0] (hq 0 [.inl (9, [vrf 1, vrf 2, vrf 5, vn0, vn0, vi0, vi0, vi0]), .inl (2, [vi0, vi0, vi0, vi0, vi0, vi0]), .inl (1, [vrf 3, vrf 4, vi0, vi0, vrf 1, vi0, vi0, vi0]), ay 2000, ay 2000, .inl (5, [vrf 6, vrf 7]), ay 3200, az 16, .inl (3, [vrf 9, vrf 10, vrf 11, vrf 6, vrf 1, vi0]), az 8, al 4, ar 16] h0, 12, 7274) _
  clear hc
  refine X_ip (l1 := [.inl (9, [vrf 1, vrf 2, vrf 5, vrf 8, vn0, vi0, vi0, vi0]), .inl (2, [vi0, vi0, vi0, vi0, vi0, vi0]), .inl (1, [vrf 3, vrf 4, vi0, vi0, vrf 1, vi0, vi0, vi0]), ay 2000, ay 2000, .inl (5, [vrf 6, vrf 7]), ay 3200, az 16, .inl (3, [vrf 9, vrf 10, vrf 11, vrf 6, vrf 1, vi0]), az 8, al 4, ar 16]) rfl (Nat.le_of_ble_eq_true rfl) rfl rfl rfl ?_
  refine X_run 1 (i1 := 30) (L1 := [some (vrf 0)]) (st1 := [vrf 0]) rfl ?_
  refine X_ic (l1 := [.inl (9, [vrf 1, vrf 2, vrf 5, vrf 8, vn0, vi0, vi0, vi0]), .inl (2, [vi0, vi0, vi0, vi0, vi0, vi0]), .inl (1, [vrf 3, vrf 4, vi0, vi0, vrf 1, vi0, vi0, vi0]), ay 2000, ay 2000, .inl (5, [vrf 6, vrf 7]), ay 3200, az 16, .inl (3, [vrf 9, vrf 10, vrf 11, vrf 6, vrf 1, vi0]), az 8, al 4, ar 16, .inl (0, [vn0, vn0, vn0, vn0, vn0, vn0, vn0, vn0, vn0, vn0, vn0, vn0, vi0, vi0])]) (u1 := 7288) rfl rfl rfl (Nat.le_of_ble_eq_true rfl) (Nat.le_of_ble_eq_true rfl) rfl rfl ?_
  refine X_run 2 (i1 := 33) (L1 := [some (vrf 0)]) (st1 := [vrf 0, vrf 12, vrf 12, vrf 0]) rfl ?_
  refine X_ig (v := vrf 5) rfl (Nat.le_of_ble_eq_true rfl) rfl rfl ?_
  refine X_run 1 (i1 := 35) (L1 := [some (vrf 0)]) (st1 := [vrf 0, vrf 5, vrf 12, vrf 12, vrf 0]) rfl ?_
  refine X_ig (v := vrf 8) rfl (Nat.le_of_ble_eq_true rfl) rfl rfl ?_
  refine X_run 1 (i1 := 37) (L1 := [some (vrf 0)]) (st1 := [vrf 0, vrf 8, vrf 5, vrf 12, vrf 12, vrf 0]) rfl ?_
  refine X_ig (v := vrf 1) rfl (Nat.le_of_ble_eq_true rfl) rfl rfl ?_
  have hc := i_En_init (d := d) (h0 := hq 0 [.inl (9, [vrf 1, vrf 2, vrf 5, vrf 8, vn0, vi0, vi0, vi0]), .inl (2, [vi0, vi0, vi0, vi0, vi0, vi0]), .inl (1, [vrf 3, vrf 4, vi0, vi0, vrf 1, vi0, vi0, vi0]), ay 2000, ay 2000, .inl (5, [vrf 6, vrf 7]), ay 3200, az 16, .inl (3, [vrf 9, vrf 10, vrf 11, vrf 6, vrf 1, vi0]), az 8, al 4, ar 16] h0) rfl
  rw [show (hq 12 [.inl (0, [vn0, vn0, vn0, vn0, vn0, vn0, vn0, vn0, vn0, vn0, vn0, vn0, vi0, vi0])] (hq 0 [.inl (9, [vrf 1, vrf 2, vrf 5, vrf 8, vn0, vi0, vi0, vi0]), .inl (2, [vi0, vi0, vi0, vi0, vi0, vi0]), .inl (1, [vrf 3, vrf 4, vi0, vi0, vrf 1, vi0, vi0, vi0]), ay 2000, ay 2000, .inl (5, [vrf 6, vrf 7]), ay 3200, az 16, .inl (3, [vrf 9, vrf 10, vrf 11, vrf 6, vrf 1, vi0]), az 8, al 4, ar 16] h0)) = hq 0 [.inl (9, [vrf 1, vrf 2, vrf 5, vrf 8, vn0, vi0, vi0, vi0]), .inl (2, [vi0, vi0, vi0, vi0, vi0, vi0]), .inl (1, [vrf 3, vrf 4, vi0, vi0, vrf 1, vi0, vi0, vi0]), ay 2000, ay 2000, .inl (5, [vrf 6, vrf 7]), ay 3200, az 16, .inl (3, [vrf 9, vrf 10, vrf 11, vrf 6, vrf 1, vi0]), az 8, al 4, ar 16, .inl (0, [vn0, vn0, vn0, vn0, vn0, vn0, vn0, vn0, vn0, vn0, vn0, vn0, vi0, vi0])] h0 from hq_app 0 [.inl (9, [vrf 1, vrf 2, vrf 5, vrf 8, vn0, vi0, vi0, vi0]), .inl (2, [vi0, vi0, vi0, vi0, vi0, vi0]), .inl (1, [vrf 3, vrf 4, vi0, vi0, vrf 1, vi0, vi0, vi0]), ay 2000, ay 2000, .inl (5, [vrf 6, vrf 7]), ay 3200, az 16, .inl (3, [vrf 9, vrf 10, vrf 11, vrf 6, vrf 1, vi0]), az 8, al 4, ar 16] [.inl (0, [vn0, vn0, vn0, vn0, vn0, vn0, vn0, vn0, vn0, vn0, vn0, vn0, vi0, vi0])] h0, show (hq 12 [.inl (0, [vrf 5, vrf 6, vrf 8, vrf 1, vrf 13, vrf 14, vrf 15, vrf 16, vrf 17, vrf 18, vrf 19, vrf 20, vi0, vi0]), az 132, az 132, az 132, az 132, az 132, az 132, ar 2112, ar 2112] (hq 0 [.inl (9, [vrf 1, vrf 2, vrf 5, vrf 8, vn0, vi0, vi0, vi0]), .inl (2, [vi0, vi0, vi0, vi0, vi0, vi0]), .inl (1, [vrf 3, vrf 4, vi0, vi0, vrf 1, vi0, vi0, vi0]), ay 2000, ay 2000, .inl (5, [vrf 6, vrf 7]), ay 3200, az 16, .inl (3, [vrf 9, vrf 10, vrf 11, vrf 6, vrf 1, vi0]), az 8, al 4, ar 16] h0)) = hq 0 [.inl (9, [vrf 1, vrf 2, vrf 5, vrf 8, vn0, vi0, vi0, vi0]), .inl (2, [vi0, vi0, vi0, vi0, vi0, vi0]), .inl (1, [vrf 3, vrf 4, vi0, vi0, vrf 1, vi0, vi0, vi0]), ay 2000, ay 2000, .inl (5, [vrf 6, vrf 7]), ay 3200, az 16, .inl (3, [vrf 9, vrf 10, vrf 11, vrf 6, vrf 1, vi0]), az 8, al 4, ar 16, .inl (0, [vrf 5, vrf 6, vrf 8, vrf 1, vrf 13, vrf 14, vrf 15, vrf 16, vrf 17, vrf 18, vrf 19, vrf 20, vi0, vi0]), az 132, az 132, az 132, az 132, az 132, az 132, ar 2112, ar 2112] h0 from hq_app 0 [.inl (9, [vrf 1, vrf 2, vrf 5, vrf 8, vn0, vi0, vi0, vi0]), .inl (2, [vi0, vi0, vi0, vi0, vi0, vi0]), .inl (1, [vrf 3, vrf 4, vi0, vi0, vrf 1, vi0, vi0, vi0]), ay 2000, ay 2000, .inl (5, [vrf 6, vrf 7]), ay 3200, az 16, .inl (3, [vrf 9, vrf 10, vrf 11, vrf 6, vrf 1, vi0]), az 8, al 4, ar 16] [.inl (0, [vrf 5, vrf 6, vrf 8, vrf 1, vrf 13, vrf 14, vrf 15, vrf 16, vrf 17, vrf 18, vrf 19, vrf 20, vi0, vi0]), az 132, az 132, az 132, az 132, az 132, az 132, ar 2112, ar 2112] h0] at hc
  refine X_calln m_En_init (As := [vrf 5, vrf 8, vrf 1]) (st := [vrf 12, vrf 0]) ok_En_init rfl rfl rfl rfl (Nat.le_of_ble_eq_true rfl) (Nat.le_of_ble_eq_true rfl) hc ?_
  rintro _ _ ⟨rfl, rfl⟩
  show X _ _ 39 [some (vrf 0)] [vrf 12, vrf 0] (hq 0 [.inl (9, [vrf 1, vrf 2, vrf 5, vrf 8, vn0, vi0, vi0, vi0]), .inl (2, [vi0, vi0, vi0, vi0, vi0, vi0]), .inl (1, [vrf 3, vrf 4, vi0, vi0, vrf 1, vi0, vi0, vi0]), ay 2000, ay 2000, .inl (5, [vrf 6, vrf 7]), ay 3200, az 16, .inl (3, [vrf 9, vrf 10, vrf 11, vrf 6, vrf 1, vi0]), az 8, al 4, ar 16, .inl (0, [vrf 5, vrf 6, vrf 8, vrf 1, vrf 13, vrf 14, vrf 15, vrf 16, vrf 17, vrf 18, vrf 19, vrf 20, vi0, vi0]), az 132, az 132, az 132, az 132, az 132, az 132, ar 2112, ar 2112] h0, 21, 12304) _
  clear hc
  refine X_ip (l1 := [.inl (9, [vrf 1, vrf 2, vrf 5, vrf 8, vrf 12, vi0, vi0, vi0]), .inl (2, [vi0, vi0, vi0, vi0, vi0, vi0]), .inl (1, [vrf 3, vrf 4, vi0, vi0, vrf 1, vi0, vi0, vi0]), ay 2000, ay 2000, .inl (5, [vrf 6, vrf 7]), ay 3200, az 16, .inl (3, [vrf 9, vrf 10, vrf 11, vrf 6, vrf 1, vi0]), az 8, al 4, ar 16, .inl (0, [vrf 5, vrf 6, vrf 8, vrf 1, vrf 13, vrf 14, vrf 15, vrf 16, vrf 17, vrf 18, vrf 19, vrf 20, vi0, vi0]), az 132, az 132, az 132, az 132, az 132, az 132, ar 2112, ar 2112]) rfl (Nat.le_of_ble_eq_true rfl) rfl rfl rfl ?_
  exact X_ret rfl rfl ⟨rfl, rfl⟩
theorem i_M_init {d : Nat} {h0 : AH} : X m_M_init (d + 1) 0 (entL 1 [vrf 21]) [] (hq 21 [.inl (10, [vi0, vn0, vn0, vn0, vn0, vn0, vi0, vi0, vi0, vi0, vi0, vi0, vi0, vi0, vi0, vi0, vn0, vn0, vn0, vn0, vn0, vn0, vn0, vi0, vi0, vi0, vi0, vn0, vn0, vl0, vi0, vi0])] h0, 22, 12336) (fun r P1 => r = none ∧ P1 = (hq 21 [.inl (10, [vi0, vrf 22, vrf 23, vrf 24, vrf 25, vrf 26, vi0, vi0, vi0, vi0, vi0, vi0, vi0, vi0, vi0, vi0, vrf 27, vrf 28, vrf 29, vrf 30, vrf 31, vrf 32, vrf 33, vi0, vi0, vi0, vi0, vrf 34, vrf 35, vl0, vi0, vi0]), az 40001, az 40001, az 40001, az 40001, al 40001, az 16, az 8, al 4, az 3200, az 16, az 2000, az 2000, az 2288, az 2288] h0, 36, 224161)) := by
  refine X_run 1 (i1 := 1) (L1 := [some (vrf 21)]) (st1 := [vrf 21]) rfl ?_
  refine X_obj rfl (Nat.le_of_ble_eq_true rfl) (Nat.le_of_ble_eq_true rfl) rfl ?_
  refine X_run 2 (i1 := 4) (L1 := [some (vrf 21)]) (st1 := [.inl (40001 : Int32), vrf 21]) rfl ?_
  refine X_ia (l1 := [.inl (10, [vi0, vn0, vn0, vn0, vn0, vn0, vi0, vi0, vi0, vi0, vi0, vi0, vi0, vi0, vi0, vi0, vn0, vn0, vn0, vn0, vn0, vn0, vn0, vi0, vi0, vi0, vi0, vn0, vn0, vl0, vi0, vi0]), az 40001]) (u1 := 52337) (N := 40001) (e := az 40001) rfl (by decide) rfl rfl rfl (Nat.le_of_ble_eq_true rfl) (Nat.le_of_ble_eq_true rfl) rfl rfl ?_
  refine X_ip (l1 := [.inl (10, [vi0, vrf 22, vn0, vn0, vn0, vn0, vi0, vi0, vi0, vi0, vi0, vi0, vi0, vi0, vi0, vi0, vn0, vn0, vn0, vn0, vn0, vn0, vn0, vi0, vi0, vi0, vi0, vn0, vn0, vl0, vi0, vi0]), az 40001]) rfl (Nat.le_of_ble_eq_true rfl) rfl rfl rfl ?_
  refine X_run 2 (i1 := 8) (L1 := [some (vrf 21)]) (st1 := [.inl (40001 : Int32), vrf 21]) rfl ?_
  refine X_ia (l1 := [.inl (10, [vi0, vrf 22, vn0, vn0, vn0, vn0, vi0, vi0, vi0, vi0, vi0, vi0, vi0, vi0, vi0, vi0, vn0, vn0, vn0, vn0, vn0, vn0, vn0, vi0, vi0, vi0, vi0, vn0, vn0, vl0, vi0, vi0]), az 40001, az 40001]) (u1 := 92338) (N := 40001) (e := az 40001) rfl (by decide) rfl rfl rfl (Nat.le_of_ble_eq_true rfl) (Nat.le_of_ble_eq_true rfl) rfl rfl ?_
  refine X_ip (l1 := [.inl (10, [vi0, vrf 22, vrf 23, vn0, vn0, vn0, vi0, vi0, vi0, vi0, vi0, vi0, vi0, vi0, vi0, vi0, vn0, vn0, vn0, vn0, vn0, vn0, vn0, vi0, vi0, vi0, vi0, vn0, vn0, vl0, vi0, vi0]), az 40001, az 40001]) rfl (Nat.le_of_ble_eq_true rfl) rfl rfl rfl ?_
  refine X_run 2 (i1 := 12) (L1 := [some (vrf 21)]) (st1 := [.inl (40001 : Int32), vrf 21]) rfl ?_
  refine X_ia (l1 := [.inl (10, [vi0, vrf 22, vrf 23, vn0, vn0, vn0, vi0, vi0, vi0, vi0, vi0, vi0, vi0, vi0, vi0, vi0, vn0, vn0, vn0, vn0, vn0, vn0, vn0, vi0, vi0, vi0, vi0, vn0, vn0, vl0, vi0, vi0]), az 40001, az 40001, az 40001]) (u1 := 132339) (N := 40001) (e := az 40001) rfl (by decide) rfl rfl rfl (Nat.le_of_ble_eq_true rfl) (Nat.le_of_ble_eq_true rfl) rfl rfl ?_
  refine X_ip (l1 := [.inl (10, [vi0, vrf 22, vrf 23, vrf 24, vn0, vn0, vi0, vi0, vi0, vi0, vi0, vi0, vi0, vi0, vi0, vi0, vn0, vn0, vn0, vn0, vn0, vn0, vn0, vi0, vi0, vi0, vi0, vn0, vn0, vl0, vi0, vi0]), az 40001, az 40001, az 40001]) rfl (Nat.le_of_ble_eq_true rfl) rfl rfl rfl ?_
  refine X_run 2 (i1 := 16) (L1 := [some (vrf 21)]) (st1 := [.inl (40001 : Int32), vrf 21]) rfl ?_
  refine X_ia (l1 := [.inl (10, [vi0, vrf 22, vrf 23, vrf 24, vn0, vn0, vi0, vi0, vi0, vi0, vi0, vi0, vi0, vi0, vi0, vi0, vn0, vn0, vn0, vn0, vn0, vn0, vn0, vi0, vi0, vi0, vi0, vn0, vn0, vl0, vi0, vi0]), az 40001, az 40001, az 40001, az 40001]) (u1 := 172340) (N := 40001) (e := az 40001) rfl (by decide) rfl rfl rfl (Nat.le_of_ble_eq_true rfl) (Nat.le_of_ble_eq_true rfl) rfl rfl ?_
  refine X_ip (l1 := [.inl (10, [vi0, vrf 22, vrf 23, vrf 24, vrf 25, vn0, vi0, vi0, vi0, vi0, vi0, vi0, vi0, vi0, vi0, vi0, vn0, vn0, vn0, vn0, vn0, vn0, vn0, vi0, vi0, vi0, vi0, vn0, vn0, vl0, vi0, vi0]), az 40001, az 40001, az 40001, az 40001]) rfl (Nat.le_of_ble_eq_true rfl) rfl rfl rfl ?_
  refine X_run 2 (i1 := 20) (L1 := [some (vrf 21)]) (st1 := [.inl (40001 : Int32), vrf 21]) rfl ?_
  refine X_ia (l1 := [.inl (10, [vi0, vrf 22, vrf 23, vrf 24, vrf 25, vn0, vi0, vi0, vi0, vi0, vi0, vi0, vi0, vi0, vi0, vi0, vn0, vn0, vn0, vn0, vn0, vn0, vn0, vi0, vi0, vi0, vi0, vn0, vn0, vl0, vi0, vi0]), az 40001, az 40001, az 40001, az 40001, al 40001]) (u1 := 212341) (N := 40001) (e := al 40001) rfl (by decide) rfl rfl rfl (Nat.le_of_ble_eq_true rfl) (Nat.le_of_ble_eq_true rfl) rfl rfl ?_
  refine X_ip (l1 := [.inl (10, [vi0, vrf 22, vrf 23, vrf 24, vrf 25, vrf 26, vi0, vi0, vi0, vi0, vi0, vi0, vi0, vi0, vi0, vi0, vn0, vn0, vn0, vn0, vn0, vn0, vn0, vi0, vi0, vi0, vi0, vn0, vn0, vl0, vi0, vi0]), az 40001, az 40001, az 40001, az 40001, al 40001]) rfl (Nat.le_of_ble_eq_true rfl) rfl rfl rfl ?_
  refine X_run 2 (i1 := 24) (L1 := [some (vrf 21)]) (st1 := [.inl (16 : Int32), vrf 21]) rfl ?_
  refine X_ia (l1 := [.inl (10, [vi0, vrf 22, vrf 23, vrf 24, vrf 25, vrf 26, vi0, vi0, vi0, vi0, vi0, vi0, vi0, vi0, vi0, vi0, vn0, vn0, vn0, vn0, vn0, vn0, vn0, vi0, vi0, vi0, vi0, vn0, vn0, vl0, vi0, vi0]), az 40001, az 40001, az 40001, az 40001, al 40001, az 16]) (u1 := 212357) (N := 16) (e := az 16) rfl (by decide) rfl rfl rfl (Nat.le_of_ble_eq_true rfl) (Nat.le_of_ble_eq_true rfl) rfl rfl ?_
  refine X_ip (l1 := [.inl (10, [vi0, vrf 22, vrf 23, vrf 24, vrf 25, vrf 26, vi0, vi0, vi0, vi0, vi0, vi0, vi0, vi0, vi0, vi0, vrf 27, vn0, vn0, vn0, vn0, vn0, vn0, vi0, vi0, vi0, vi0, vn0, vn0, vl0, vi0, vi0]), az 40001, az 40001, az 40001, az 40001, al 40001, az 16]) rfl (Nat.le_of_ble_eq_true rfl) rfl rfl rfl ?_
  refine X_run 2 (i1 := 28) (L1 := [some (vrf 21)]) (st1 := [.inl (8 : Int32), vrf 21]) rfl ?_
  refine X_ia (l1 := [.inl (10, [vi0, vrf 22, vrf 23, vrf 24, vrf 25, vrf 26, vi0, vi0, vi0, vi0, vi0, vi0, vi0, vi0, vi0, vi0, vrf 27, vn0, vn0, vn0, vn0, vn0, vn0, vi0, vi0, vi0, vi0, vn0, vn0, vl0, vi0, vi0]), az 40001, az 40001, az 40001, az 40001, al 40001, az 16, az 8]) (u1 := 212365) (N := 8) (e := az 8) rfl (by decide) rfl rfl rfl (Nat.le_of_ble_eq_true rfl) (Nat.le_of_ble_eq_true rfl) rfl rfl ?_
  refine X_ip (l1 := [.inl (10, [vi0, vrf 22, vrf 23, vrf 24, vrf 25, vrf 26, vi0, vi0, vi0, vi0, vi0, vi0, vi0, vi0, vi0, vi0, vrf 27, vrf 28, vn0, vn0, vn0, vn0, vn0, vi0, vi0, vi0, vi0, vn0, vn0, vl0, vi0, vi0]), az 40001, az 40001, az 40001, az 40001, al 40001, az 16, az 8]) rfl (Nat.le_of_ble_eq_true rfl) rfl rfl rfl ?_
  refine X_run 2 (i1 := 32) (L1 := [some (vrf 21)]) (st1 := [.inl (4 : Int32), vrf 21]) rfl ?_
  refine X_ia (l1 := [.inl (10, [vi0, vrf 22, vrf 23, vrf 24, vrf 25, vrf 26, vi0, vi0, vi0, vi0, vi0, vi0, vi0, vi0, vi0, vi0, vrf 27, vrf 28, vn0, vn0, vn0, vn0, vn0, vi0, vi0, vi0, vi0, vn0, vn0, vl0, vi0, vi0]), az 40001, az 40001, az 40001, az 40001, al 40001, az 16, az 8, al 4]) (u1 := 212369) (N := 4) (e := al 4) rfl (by decide) rfl rfl rfl (Nat.le_of_ble_eq_true rfl) (Nat.le_of_ble_eq_true rfl) rfl rfl ?_
  refine X_ip (l1 := [.inl (10, [vi0, vrf 22, vrf 23, vrf 24, vrf 25, vrf 26, vi0, vi0, vi0, vi0, vi0, vi0, vi0, vi0, vi0, vi0, vrf 27, vrf 28, vrf 29, vn0, vn0, vn0, vn0, vi0, vi0, vi0, vi0, vn0, vn0, vl0, vi0, vi0]), az 40001, az 40001, az 40001, az 40001, al 40001, az 16, az 8, al 4]) rfl (Nat.le_of_ble_eq_true rfl) rfl rfl rfl ?_
  refine X_run 2 (i1 := 36) (L1 := [some (vrf 21)]) (st1 := [.inl (3200 : Int32), vrf 21]) rfl ?_
  refine X_ia (l1 := [.inl (10, [vi0, vrf 22, vrf 23, vrf 24, vrf 25, vrf 26, vi0, vi0, vi0, vi0, vi0, vi0, vi0, vi0, vi0, vi0, vrf 27, vrf 28, vrf 29, vn0, vn0, vn0, vn0, vi0, vi0, vi0, vi0, vn0, vn0, vl0, vi0, vi0]), az 40001, az 40001, az 40001, az 40001, al 40001, az 16, az 8, al 4, az 3200]) (u1 := 215569) (N := 3200) (e := az 3200) rfl (by decide) rfl rfl rfl (Nat.le_of_ble_eq_true rfl) (Nat.le_of_ble_eq_true rfl) rfl rfl ?_
  refine X_ip (l1 := [.inl (10, [vi0, vrf 22, vrf 23, vrf 24, vrf 25, vrf 26, vi0, vi0, vi0, vi0, vi0, vi0, vi0, vi0, vi0, vi0, vrf 27, vrf 28, vrf 29, vrf 30, vn0, vn0, vn0, vi0, vi0, vi0, vi0, vn0, vn0, vl0, vi0, vi0]), az 40001, az 40001, az 40001, az 40001, al 40001, az 16, az 8, al 4, az 3200]) rfl (Nat.le_of_ble_eq_true rfl) rfl rfl rfl ?_
  refine X_run 2 (i1 := 40) (L1 := [some (vrf 21)]) (st1 := [.inl (16 : Int32), vrf 21]) rfl ?_
  refine X_ia (l1 := [.inl (10, [vi0, vrf 22, vrf 23, vrf 24, vrf 25, vrf 26, vi0, vi0, vi0, vi0, vi0, vi0, vi0, vi0, vi0, vi0, vrf 27, vrf 28, vrf 29, vrf 30, vn0, vn0, vn0, vi0, vi0, vi0, vi0, vn0, vn0, vl0, vi0, vi0]), az 40001, az 40001, az 40001, az 40001, al 40001, az 16, az 8, al 4, az 3200, az 16]) (u1 := 215585) (N := 16) (e := az 16) rfl (by decide) rfl rfl rfl (Nat.le_of_ble_eq_true rfl) (Nat.le_of_ble_eq_true rfl) rfl rfl ?_
  refine X_ip (l1 := [.inl (10, [vi0, vrf 22, vrf 23, vrf 24, vrf 25, vrf 26, vi0, vi0, vi0, vi0, vi0, vi0, vi0, vi0, vi0, vi0, vrf 27, vrf 28, vrf 29, vrf 30, vrf 31, vn0, vn0, vi0, vi0, vi0, vi0, vn0, vn0, vl0, vi0, vi0]), az 40001, az 40001, az 40001, az 40001, al 40001, az 16, az 8, al 4, az 3200, az 16]) rfl (Nat.le_of_ble_eq_true rfl) rfl rfl rfl ?_
  refine X_run 2 (i1 := 44) (L1 := [some (vrf 21)]) (st1 := [.inl (2000 : Int32), vrf 21]) rfl ?_
  refine X_ia (l1 := [.inl (10, [vi0, vrf 22, vrf 23, vrf 24, vrf 25, vrf 26, vi0, vi0, vi0, vi0, vi0, vi0, vi0, vi0, vi0, vi0, vrf 27, vrf 28, vrf 29, vrf 30, vrf 31, vn0, vn0, vi0, vi0, vi0, vi0, vn0, vn0, vl0, vi0, vi0]), az 40001, az 40001, az 40001, az 40001, al 40001, az 16, az 8, al 4, az 3200, az 16, az 2000]) (u1 := 217585) (N := 2000) (e := az 2000) rfl (by decide) rfl rfl rfl (Nat.le_of_ble_eq_true rfl) (Nat.le_of_ble_eq_true rfl) rfl rfl ?_
  refine X_ip (l1 := [.inl (10, [vi0, vrf 22, vrf 23, vrf 24, vrf 25, vrf 26, vi0, vi0, vi0, vi0, vi0, vi0, vi0, vi0, vi0, vi0, vrf 27, vrf 28, vrf 29, vrf 30, vrf 31, vrf 32, vn0, vi0, vi0, vi0, vi0, vn0, vn0, vl0, vi0, vi0]), az 40001, az 40001, az 40001, az 40001, al 40001, az 16, az 8, al 4, az 3200, az 16, az 2000]) rfl (Nat.le_of_ble_eq_true rfl) rfl rfl rfl ?_
  refine X_run 2 (i1 := 48) (L1 := [some (vrf 21)]) (st1 := [.inl (2000 : Int32), vrf 21]) rfl ?_
  refine X_ia (l1 := [.inl (10, [vi0, vrf 22, vrf 23, vrf 24, vrf 25, vrf 26, vi0, vi0, vi0, vi0, vi0, vi0, vi0, vi0, vi0, vi0, vrf 27, vrf 28, vrf 29, vrf 30, vrf 31, vrf 32, vn0, vi0, vi0, vi0, vi0, vn0, vn0, vl0, vi0, vi0]), az 40001, az 40001, az 40001, az 40001, al 40001, az 16, az 8, al 4, az 3200, az 16, az 2000, az 2000]) (u1 := 219585) (N := 2000) (e := az 2000) rfl (by decide) rfl rfl rfl (Nat.le_of_ble_eq_true rfl) (Nat.le_of_ble_eq_true rfl) rfl rfl ?_
  refine X_ip (l1 := [.inl (10, [vi0, vrf 22, vrf 23, vrf 24, vrf 25, vrf 26, vi0, vi0, vi0, vi0, vi0, vi0, vi0, vi0, vi0, vi0, vrf 27, vrf 28, vrf 29, vrf 30, vrf 31, vrf 32, vrf 33, vi0, vi0, vi0, vi0, vn0, vn0, vl0, vi0, vi0]), az 40001, az 40001, az 40001, az 40001, al 40001, az 16, az 8, al 4, az 3200, az 16, az 2000, az 2000]) rfl (Nat.le_of_ble_eq_true rfl) rfl rfl rfl ?_
  refine X_run 2 (i1 := 52) (L1 := [some (vrf 21)]) (st1 := [.inl (2288 : Int32), vrf 21]) rfl ?_
  refine X_ia (l1 := [.inl (10, [vi0, vrf 22, vrf 23, vrf 24, vrf 25, vrf 26, vi0, vi0, vi0, vi0, vi0, vi0, vi0, vi0, vi0, vi0, vrf 27, vrf 28, vrf 29, vrf 30, vrf 31, vrf 32, vrf 33, vi0, vi0, vi0, vi0, vn0, vn0, vl0, vi0, vi0]), az 40001, az 40001, az 40001, az 40001, al 40001, az 16, az 8, al 4, az 3200, az 16, az 2000, az 2000, az 2288]) (u1 := 221873) (N := 2288) (e := az 2288) rfl (by decide) rfl rfl rfl (Nat.le_of_ble_eq_true rfl) (Nat.le_of_ble_eq_true rfl) rfl rfl ?_
  refine X_ip (l1 := [.inl (10, [vi0, vrf 22, vrf 23, vrf 24, vrf 25, vrf 26, vi0, vi0, vi0, vi0, vi0, vi0, vi0, vi0, vi0, vi0, vrf 27, vrf 28, vrf 29, vrf 30, vrf 31, vrf 32, vrf 33, vi0, vi0, vi0, vi0, vrf 34, vn0, vl0, vi0, vi0]), az 40001, az 40001, az 40001, az 40001, al 40001, az 16, az 8, al 4, az 3200, az 16, az 2000, az 2000, az 2288]) rfl (Nat.le_of_ble_eq_true rfl) rfl rfl rfl ?_
  refine X_run 2 (i1 := 56) (L1 := [some (vrf 21)]) (st1 := [.inl (2288 : Int32), vrf 21]) rfl ?_
  refine X_ia (l1 := [.inl (10, [vi0, vrf 22, vrf 23, vrf 24, vrf 25, vrf 26, vi0, vi0, vi0, vi0, vi0, vi0, vi0, vi0, vi0, vi0, vrf 27, vrf 28, vrf 29, vrf 30, vrf 31, vrf 32, vrf 33, vi0, vi0, vi0, vi0, vrf 34, vn0, vl0, vi0, vi0]), az 40001, az 40001, az 40001, az 40001, al 40001, az 16, az 8, al 4, az 3200, az 16, az 2000, az 2000, az 2288, az 2288]) (u1 := 224161) (N := 2288) (e := az 2288) rfl (by decide) rfl rfl rfl (Nat.le_of_ble_eq_true rfl) (Nat.le_of_ble_eq_true rfl) rfl rfl ?_
  refine X_ip (l1 := [.inl (10, [vi0, vrf 22, vrf 23, vrf 24, vrf 25, vrf 26, vi0, vi0, vi0, vi0, vi0, vi0, vi0, vi0, vi0, vi0, vrf 27, vrf 28, vrf 29, vrf 30, vrf 31, vrf 32, vrf 33, vi0, vi0, vi0, vi0, vrf 34, vrf 35, vl0, vi0, vi0]), az 40001, az 40001, az 40001, az 40001, al 40001, az 16, az 8, al 4, az 3200, az 16, az 2000, az 2000, az 2288, az 2288]) rfl (Nat.le_of_ble_eq_true rfl) rfl rfl rfl ?_
  exact X_ret rfl rfl ⟨rfl, rfl⟩
