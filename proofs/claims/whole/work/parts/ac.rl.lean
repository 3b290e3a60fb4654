/-! THE RELATION OF THE WHOLE, between calls -/
def RL (G : AH) (T : Nat) (c r : St) : Prop := ∃ (φ : Nat → Nat) (n u : Nat), RR G T φ n u c r ∧ CDV c r ∧ R_tape c r ∧ R_out c r ∧ R_last c r
/-- what the reference's part of a state is -/
def mF (r r' : St) : Prop := (∀ k, k ≠ 0 → sI r' 21 k = sI r 21 k) ∧ ∀ a, 21 ≤ a → a < 36 → sA r' a = sA r a ∧ sB r' a = sB r a
/-- what the class's part of a state is, but for the engine's and for what is passing -/
def cF (c c' : St) : Prop := (∀ k, k < 3 → sI c' 1 k = sI c 1 k) ∧ (∀ k, k < 5 → sI c' 2 k = sI c 2 k) ∧ (∀ k, sI c' 0 k = sI c 0 k) ∧ (∀ a, a < 13 → sA c' a = sA c a) ∧ (∀ a, a < 13 → sB c' a = sB c a) ∧ sT c' 11 = sT c 11 ∧ sD c' = sD c ∧ sN c' = sN c ∧ sU c' = sU c
theorem mF.rf (r : St) : mF r r := ⟨fun _ _ => rfl, fun _ _ _ => ⟨rfl, rfl⟩⟩
theorem mF.tr {a b c : St} (h : mF a b) (g : mF b c) : mF a c := ⟨fun k z => (g.1 k z).trans (h.1 k z), fun x z y => ⟨(g.2 x z y).1.trans (h.2 x z y).1, (g.2 x z y).2.trans (h.2 x z y).2⟩⟩
theorem mE.mF {r r' : St} (h : mE r r') : mF r r' := ⟨fun k _ => (h 21 (Nat.le_refl _)).1 k, fun a ha _ => ⟨(h a ha).2.2.1, (h a ha).2.2.2.1⟩⟩
theorem mF_0 (r : St) (v : Int32) : mF r (pI r 21 0 v) := ⟨fun k z => by rw [sI_pI, if_pos rfl, if_neg z], fun _ _ _ => ⟨rfl, rfl⟩⟩
theorem cF.rf (c : St) : cF c c := ⟨fun _ _ => rfl, fun _ _ => rfl, fun _ => rfl, fun _ _ => rfl, fun _ _ => rfl, rfl, rfl, rfl, rfl⟩
theorem cF.tr {a b c : St} (h : cF a b) (g : cF b c) : cF a c := ⟨fun k z => (g.1 k z).trans (h.1 k z), fun k z => (g.2.1 k z).trans (h.2.1 k z), fun k => (g.2.2.1 k).trans (h.2.2.1 k), fun k z => (g.2.2.2.1 k z).trans (h.2.2.2.1 k z), fun k z => (g.2.2.2.2.1 k z).trans (h.2.2.2.2.1 k z), g.2.2.2.2.2.1.trans h.2.2.2.2.2.1, g.2.2.2.2.2.2.1.trans h.2.2.2.2.2.2.1, g.2.2.2.2.2.2.2.1.trans h.2.2.2.2.2.2.2.1, g.2.2.2.2.2.2.2.2.trans h.2.2.2.2.2.2.2.2⟩
theorem cE.cF {c c' : St} (h : cE c c') : cF c c' := ⟨fun k _ => (h.1 1 (Or.inl (by decide))).1 k, fun k _ => (h.1 2 (Or.inl (by decide))).1 k, fun k => (h.1 0 (Or.inl (by decide))).1 k, fun a ha => (h.1 a (Or.inl (by omega))).2.2.1, fun a ha => (h.1 a (Or.inl (by omega))).2.2.2.1, (h.1 11 (Or.inl (by decide))).2.2.2.2, h.2.1, h.2.2.1, h.2.2.2⟩
theorem enC.mE {c c' : St} (h : enC c c') : mE c c' := fun a ha => ⟨fun k => h.1 a k (by omega) (by omega) (by omega) (by omega), fun k => h.2.1 a k, h.2.2.1 a (by omega) (by omega), h.2.2.2.1 a (by omega), h.2.2.2.2 a (by omega) (by omega) (by omega)⟩
theorem enR.cE {r r' : St} (h : enR r r') : cE r r' := ⟨fun a ha => ⟨fun k => h.1 a k (fun z => absurd z (by omega)), fun k => h.2.1 a k (by omega), h.2.2.1 a (by omega) (by omega) (by omega) (by omega) (by omega), h.2.2.2.1 a (by omega) (by omega), h.2.2.2.2.1 a⟩, h.2.2.2.2.2.1, h.2.2.2.2.2.2.1, h.2.2.2.2.2.2.2.1⟩
section RLM
variable {G : AH} {T : Nat} {φ : Nat → Nat} {n u : Nat} {c c' r r' : St}
theorem RR.mv2 (h : RR G T φ n u c r) (hc : cF c c') (hr : mF r r') : RR G T φ n u c' r' := by
  obtain ⟨a1, a2, a3, a4, a5, a6, a7⟩ := h
  obtain ⟨c1, c2, c0, cA, cB, cT, cD, cN, cU⟩ := hc
  obtain ⟨rI, rA⟩ := hr
  refine ⟨?_, ?_, ?_, ?_, ?_, ?_, ?_⟩
  · unfold R_num
    rw [cA 9 (by decide), cB 10 (by decide), (rA 28 (by decide) (by decide)).1, (rA 29 (by decide) (by decide)).2]
    exact a1
  · unfold R_led
    rw [c1 0 (by decide), c1 1 (by decide), rI 8 (by decide), rI 15 (by decide)]
    exact a2
  · unfold R_fu
    rw [c1 2 (by decide), rI 11 (by decide)]
    exact a3
  · unfold R_tg
    rw [cD, cN, (rA 22 (by decide) (by decide)).1, (rA 23 (by decide) (by decide)).1, (rA 24 (by decide) (by decide)).1, (rA 25 (by decide) (by decide)).1, (rA 26 (by decide) (by decide)).2, rI 6 (by decide), rI 7 (by decide), rI 8 (by decide)]
    exact a4
  · unfold R_sv
    rw [cT, (rA 27 (by decide) (by decide)).1]
    exact a5
  · unfold R_rm
    rw [cN, cU]
    exact a6
  · unfold R_gv
    rw [cD]
    exact a7
theorem CDV.mv2 (h : CDV c r) (hc : cF c c') (hr : mF r r') : CDV c' r' := by
  unfold CDV
  rw [hc.2.2.2.1 6 (by decide), hc.2.2.2.1 7 (by decide), (hr.2 30 (by decide) (by decide)).1, (hr.2 31 (by decide) (by decide)).1]
  exact h
theorem R_tape.mv2 (h : R_tape c r) (hc : cF c c') (hr : mF r r') : R_tape c' r' := by
  unfold R_tape
  rw [hc.2.1 2 (by decide), hc.2.2.2.1 3 (by decide), hr.1 23 (by decide), (hr.2 32 (by decide) (by decide)).1]
  exact h
theorem R_out.mv2 (h : R_out c r) (hc : cF c c') (hr : mF r r') : R_out c' r' := by
  unfold R_out
  rw [hc.2.1 3 (by decide), hc.2.2.2.1 4 (by decide), hr.1 24 (by decide), (hr.2 33 (by decide) (by decide)).1]
  exact h
theorem R_last.mv2 (h : R_last c r) (hc : cF c c') (hr : mF r r') : R_last c' r' := by
  unfold R_last
  rw [hc.2.2.1 5, hc.2.2.1 6, hc.2.2.1 7, hr.1 13 (by decide), hr.1 14 (by decide), hr.1 11 (by decide)]
  exact h
theorem RL.mv (h : RL G T c r) (hc : cF c c') (hr : mF r r') : RL G T c' r' := by
  obtain ⟨φ, n, u, h1, h2, h3, h4, h5⟩ := h
  exact ⟨φ, n, u, h1.mv2 hc hr, h2.mv2 hc hr, h3.mv2 hc hr, h4.mv2 hc hr, h5.mv2 hc hr⟩
/-- a call on both sides -/
def PC (G : AH) (T : Nat) (c r : St) (x y : Int32 × St) (wc wr : Prop) : Prop := wc ∧ wr ∧ x.1 = y.1 ∧ RL G T x.2 y.2 ∧ mE c x.2 ∧ cE r y.2
/-- nothing done -/
theorem PC.no (h : RL G T c r) {x y : Int32 × St} {wc wr : Prop} {a v : Int32} (hx : x = (a, c)) (hy : y = (a, pI r 21 0 v)) (h1 : wc) (h2 : wr) : PC G T c r x y wc wr := by
  rw [hx, hy]
  exact ⟨h1, h2, rfl, h.mv (cF.rf c) (mF_0 r v), mE.rf c, cE_pI r 0 v (by decide)⟩
/-- the two calls, one after the other -/
theorem PC.glue {N : Nat} {xs : Nat → Int32} {s : St} {f g : St → Int32 × St} {wf wg : St → Prop} (hG : G am_sc = some (.inr (.inl (2, N, xs)))) (h : RL G T s s) (hp : ∀ c r, RL G T c r → PC G T c r (f c) (g r) (wf c) (wg r)) : wf s ∧ isS N xs (f s).2 ∧ wg (f s).2 ∧ (f s).1 = (g (f s).2).1 ∧ RL G T (g (f s).2).2 (g (f s).2).2 := by
  obtain ⟨w1, -, -, -, m1, -⟩ := hp s s h
  have h2 : RL G T s (f s).2 := h.mv (cF.rf s) m1.mF
  obtain ⟨-, w2, e, R2, -, m2⟩ := hp s (f s).2 h2
  refine ⟨w1, ?_, w2, e, R2.mv m2.cF (mF.rf _)⟩
  obtain ⟨φ, n, u, a1, -⟩ := R2
  have := a1.2.2.2.2.2.2 am_sc (by decide)
  show sD (f s).2 am_sc = _
  rw [this]
  exact hG
end RLM
