/-- a writer's start where the players are read too: they lie apart from its cells -/
def zBP (dC : Nat → ClassId) (dI : Nat → Nat → Nat) (cI cQ : ClassId) (PL : Nat → Prop) (w : va_W) (sz : Nat) : State → Prop := fun U => zB dC dI cI cQ w sz U ∧ zPl dC dI PL U.heap ∧ ∀ y, PL y → y < U.heap.size ∧ ∀ q ∈ w, q.1 ≠ y
theorem z_blindBP {dC : Nat → ClassId} {dI : Nat → Nat → Nat} {cI cQ : ClassId} {PL : Nat → Prop} {w : va_W} {sz : Nat} {av : List Value} : FrameBlind (va_Pc av (zBP dC dI cI cQ PL w sz)) := fun a U g mk q => by
  obtain ⟨q0, ⟨q1, qP, qK, qD⟩, qL, qN⟩ := q
  exact ⟨q0, ⟨q1, qP, zK.same rfl qK, qD⟩, qL, qN⟩
theorem z_plA {PL : Nat → Prop} {w : va_W} {sz : Nat} (h : ∀ y, PL y → y < sz ∧ ∀ q ∈ w, q.1 ≠ y) : ∀ y, PL y → y < sz ∧ ¬ va_A w sz y := fun y hy => ⟨(h y hy).1, fun q => by
  rcases q with ⟨k, e, hk⟩ | hk
  · exact (h y hy).2 (y, e) (List.mem_of_getElem? hk) rfl
  · exact absurd (h y hy).1 (Nat.not_lt.mpr hk)⟩
theorem z_plS {dC : Nat → ClassId} {dI : Nat → Nat → Nat} {PL : Nat → Prop} {A : Nat → Prop} {H0 H : Heap} {locs : List Loc} (h0 : zPl dC dI PL H0) (hA : ∀ y, PL y → y < H0.size ∧ ¬ A y) (hS : va_S A H0 H locs) : zPl dC dI PL H := fun y hy => by
  obtain ⟨k, v, hk, hP⟩ := h0 y hy
  refine ⟨k, v, hk, fun i q hq => ?_⟩
  have hz : i < 1 := (List.getElem?_eq_some_iff.mp hq).1
  have h1 := hP i q hq
  rw [show i = 0 by omega] at hq
  cases hq
  exact h1.kept (hS.2.1 y (hA y hy).1 (hA y hy).2)
theorem z_preBP {dC : Nat → ClassId} {dI : Nat → Nat → Nat} {cI cQ : ClassId} {PL : Nat → Prop} {ws wc : va_W} {A : Nat → Prop} {s : State} {H : Heap} {locs : List Loc} {av : List Value} (hZ : zK dC dI cI cQ s) (hP : va_P (dC, dI) vwCl ws H) (hD : va_D A ws) (hPl0 : zPl dC dI PL s.heap) (hPlA : ∀ y, PL y → y < s.heap.size ∧ ¬ A y) (hS : va_S A s.heap H locs) (isC : List Nat) (hC : isC.map (fun i => ws[i]?) = wc.map some) (hn : va_nd isC = true) : ∀ U : State, U.heap = H → s.WarmedH U.vm → va_Pc av (zBP dC dI cI cQ PL wc H.size) av.toArray U := by
  intro U hU hW
  obtain ⟨h1, h2⟩ := z_pre (av := av) hZ hP hD isC hC hn U hU hW
  refine ⟨h1, h2, by rw [hU]; exact z_plS hPl0 hPlA hS, fun y hy => ⟨by rw [hU]; exact Nat.lt_of_lt_of_le (hPlA y hy).1 hS.1, fun q hq e => ?_⟩⟩
  obtain ⟨k, hk⟩ := List.getElem?_of_mem hq
  exact (hPlA y hy).2 (by rw [← e]; exact (hD.sub isC hn hC).2 k q hk)

