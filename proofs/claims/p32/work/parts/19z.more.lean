/-- a writer's start where the players are read too: they lie apart from its cells -/
def zBP (dC : Nat → ClassId) (dI : Nat → Nat → Nat) (cI cQ : ClassId) (PL : Nat → Nat → Int32 → Prop) (w : va_W) (sz : Nat) : State → Prop := fun U => zB dC dI cI cQ w sz U ∧ zPl dC dI PL U.heap ∧ ∀ y k v, PL y k v → y < U.heap.size ∧ ∀ q ∈ w, q.1 ≠ y
theorem z_blindBP {dC : Nat → ClassId} {dI : Nat → Nat → Nat} {cI cQ : ClassId} {PL : Nat → Nat → Int32 → Prop} {w : va_W} {sz : Nat} {av : List Value} : FrameBlind (va_Pc av (zBP dC dI cI cQ PL w sz)) := fun a U g mk q => by
  obtain ⟨q0, ⟨q1, qP, qK, qD⟩, qL, qN⟩ := q
  exact ⟨q0, ⟨q1, qP, zK.same rfl qK, qD⟩, qL, qN⟩
theorem z_plA {PL : Nat → Nat → Int32 → Prop} {w : va_W} {sz : Nat} (h : ∀ y k v, PL y k v → y < sz ∧ ∀ q ∈ w, q.1 ≠ y) : ∀ y k v, PL y k v → y < sz ∧ ¬ va_A w sz y := fun y k v hy => ⟨(h y k v hy).1, fun q => by
  rcases q with ⟨i, e, hk⟩ | hk
  · exact (h y k v hy).2 (y, e) (List.mem_of_getElem? hk) rfl
  · exact absurd (h y k v hy).1 (Nat.not_lt.mpr hk)⟩
theorem z_plS {dC : Nat → ClassId} {dI : Nat → Nat → Nat} {PL : Nat → Nat → Int32 → Prop} {A : Nat → Prop} {H0 H : Heap} {locs : List Loc} (h0 : zPl dC dI PL H0) (hA : ∀ y k v, PL y k v → y < H0.size ∧ ¬ A y) (hS : va_S A H0 H locs) : zPl dC dI PL H := fun y k v hy => by
  obtain ⟨hk, hP⟩ := h0 y k v hy
  refine ⟨hk, fun i q hq => ?_⟩
  have hz : i < 1 := (List.getElem?_eq_some_iff.mp hq).1
  have h1 := hP i q hq
  rw [show i = 0 by omega] at hq
  cases hq
  exact h1.kept (hS.2.1 y (hA y k v hy).1 (hA y k v hy).2)
theorem z_preBP {dC : Nat → ClassId} {dI : Nat → Nat → Nat} {cI cQ : ClassId} {PL : Nat → Nat → Int32 → Prop} {ws wc : va_W} {A : Nat → Prop} {s : State} {H : Heap} {locs : List Loc} {av : List Value} (hZ : zK dC dI cI cQ s) (hP : va_P (dC, dI) vwCl ws H) (hD : va_D A ws) (hPl0 : zPl dC dI PL s.heap) (hPlA : ∀ y k v, PL y k v → y < s.heap.size ∧ ¬ A y) (hS : va_S A s.heap H locs) (isC : List Nat) (hC : isC.map (fun i => ws[i]?) = wc.map some) (hn : va_nd isC = true) : ∀ U : State, U.heap = H → s.WarmedH U.vm → va_Pc av (zBP dC dI cI cQ PL wc H.size) av.toArray U := by
  intro U hU hW
  obtain ⟨h1, h2⟩ := z_pre (av := av) hZ hP hD isC hC hn U hU hW
  refine ⟨h1, h2, by rw [hU]; exact z_plS hPl0 hPlA hS, fun y k v hy => ⟨by rw [hU]; exact Nat.lt_of_lt_of_le (hPlA y k v hy).1 hS.1, fun q hq e => ?_⟩⟩
  obtain ⟨j, hk⟩ := List.getElem?_of_mem hq
  exact (hPlA y k v hy).2 (by rw [← e]; exact (hD.sub isC hn hC).2 j q hk)

