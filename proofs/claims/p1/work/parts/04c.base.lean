/-! the words of every contract: the classes, one class of int arrays, one of Next arrays, the nest links of the constructors -/
def zN (U : State) : Prop := va_Nw (.methodLinkNest RX11 9 yX7_init "EachOnHisCue") U ∧ va_Nw (.methodLinkNest RX11 25 yX2_init "EachOnHisCue") U ∧ va_Nw (.methodLinkNest RX11 37 yX4_init "EachOnHisCue") U ∧ va_Nw (.methodLinkNest RX2 11 yX5_init "EachOnHisCue") U ∧ va_Nw (.methodLinkNest RX2 20 yX9_init "EachOnHisCue") U ∧ va_Nw (.methodLinkNest RX7 51 yX9_init "EachOnHisCue") U
def zK (dC : Nat → ClassId) (dI : Nat → Nat → Nat) (cI cQ : ClassId) (U : State) : Prop := va_K (dC, dI) vwCl [(cI, .int), (cQ, .object "EachOnHisCue$Next")] U ∧ va_AO "EachOnHisCue$Next" U ∧ zN U
theorem zN.warm {s U : State} (hW : s.WarmedH U.vm) (h : zN s) : zN U := ⟨va_Nw.warmM hW h.1, va_Nw.warmM hW h.2.1, va_Nw.warmM hW h.2.2.1, va_Nw.warmM hW h.2.2.2.1, va_Nw.warmM hW h.2.2.2.2.1, va_Nw.warmM hW h.2.2.2.2.2⟩
theorem zN.same {u U : State} (e : u.vm = U.vm) (h : zN u) : zN U := ⟨va_Nw.same rfl e h.1, va_Nw.same rfl e h.2.1, va_Nw.same rfl e h.2.2.1, va_Nw.same rfl e h.2.2.2.1, va_Nw.same rfl e h.2.2.2.2.1, va_Nw.same rfl e h.2.2.2.2.2⟩
theorem zK.warm {dC : Nat → ClassId} {dI : Nat → Nat → Nat} {cI cQ : ClassId} {s U : State} (hW : s.WarmedH U.vm) (h : zK dC dI cI cQ s) : zK dC dI cI cQ U := ⟨va_K.moved hW.alike h.1, va_AO.moved hW.alike h.2.1, zN.warm hW h.2.2⟩
theorem zK.same {dC : Nat → ClassId} {dI : Nat → Nat → Nat} {cI cQ : ClassId} {u U : State} (e : u.vm = U.vm) (h : zK dC dI cI cQ u) : zK dC dI cI cQ U := ⟨va_K.moved (by rw [← e]; exact Vm.Alike.refl u.vm) h.1, va_AO.moved (by rw [← e]; exact Vm.Alike.refl u.vm) h.2.1, zN.same e h.2.2⟩
/-- a contract's start: the heap's size, the cells, the words -/
def zB (dC : Nat → ClassId) (dI : Nat → Nat → Nat) (cI cQ : ClassId) (w : va_W) (sz : Nat) : State → Prop := fun U => U.heap.size = sz ∧ va_P (dC, dI) vwCl w U.heap ∧ zK dC dI cI cQ U ∧ va_D (fun _ => True) w
/-- a contract's end: one answer, the cells as they are then (ad: the addresses of the new ones) -/
def zQi (dC : Nat → ClassId) (dI : Nat → Nat → Nat) (A : Nat → Prop) (w1 : (Nat → Nat) → va_W) (r : Int32) := va_Qi (fun (x : Int32) (_ : Nat → Nat) => x = r) (fun ad t => va_P (dC, dI) vwCl (w1 ad) t.heap ∧ va_D A (w1 ad)) A
def zQl (dC : Nat → ClassId) (dI : Nat → Nat → Nat) (A : Nat → Prop) (w1 : (Nat → Nat) → va_W) (r : Int64) := va_Ql (fun (x : Int64) (_ : Nat → Nat) => x = r) (fun ad t => va_P (dC, dI) vwCl (w1 ad) t.heap ∧ va_D A (w1 ad)) A
def zQv (dC : Nat → ClassId) (dI : Nat → Nat → Nat) (A : Nat → Prop) (w1 : (Nat → Nat) → va_W) := va_Qv (fun (_ : Nat → Nat) => True) (fun ad t => va_P (dC, dI) vwCl (w1 ad) t.heap ∧ va_D A (w1 ad)) A
theorem z_blind {dC : Nat → ClassId} {dI : Nat → Nat → Nat} {cI cQ : ClassId} {w : va_W} {sz : Nat} {av : List Value} : FrameBlind (va_Pc av (zB dC dI cI cQ w sz)) := fun a U g mk q => by
  obtain ⟨q0, q1, qP, qK, qD⟩ := q
  exact ⟨q0, q1, qP, zK.same rfl qK, qD⟩
theorem z_pre {dC : Nat → ClassId} {dI : Nat → Nat → Nat} {cI cQ : ClassId} {ws wc : va_W} {A : Nat → Prop} {s : State} {H : Heap} {av : List Value} (hZ : zK dC dI cI cQ s) (hP : va_P (dC, dI) vwCl ws H) (hD : va_D A ws) (isC : List Nat) (hC : isC.map (fun i => ws[i]?) = wc.map some) (hn : va_nd isC = true) : ∀ U : State, U.heap = H → s.WarmedH U.vm → va_Pc av (zB dC dI cI cQ wc H.size) av.toArray U := by
  intro U hU hW
  refine ⟨rfl, by rw [hU], ?_, zK.warm hW hZ, (hD.sub isC hn hC).weaken (fun _ _ _ _ => trivial)⟩
  rw [hU]
  intro k q hq
  have h1 : (isC.map (fun i => ws[i]?))[k]? = some (some q) := by rw [hC, List.getElem?_map, hq]; rfl
  rw [List.getElem?_map] at h1
  cases hi : isC[k]? with
  | none => rw [hi] at h1; cases h1
  | some i => rw [hi] at h1; exact hP i q (Option.some.inj h1)
section ZC
variable {p : Program} {l : Launch} {e : Env} {R : Room} {s : State} {m : MethodId} {args : Array Value} {below : List Frame} {meth : Method} {c : Code} {H : Heap} {locs : List Loc} {cells slots : Nat} {Q : State → Prop}
variable {pc : Nat} {ls : Array Slot} {rest st0 : List Value} {a : Array Value} {A0 : Nat → Prop} {H0 : Heap} {mc ms : Nat}
variable {dC : Nat → ClassId} {dI : Nat → Nat → Nat} {ws wc wr : va_W} {w1 : (Nat → Nat) → va_W}
theorem z_calli {r : Int32} (hr : va_Run p l e R s m args below meth c H locs cells slots mc ms (F0 m pc ls st0) rest (zQi dC dI (va_A wc H.size) w1 r a) (va_A wc H.size)) (hP : va_P (dC, dI) vwCl ws H) (hD : va_D A0 ws) (hS : va_S A0 H0 H locs) (hA : ∀ q, H0.size ≤ q → A0 q) (isC isR : List Nat) (hC : isC.map (fun i => ws[i]?) = wc.map some) (hR : isR.map (fun i => ws[i]?) = wr.map some) (hn : va_nd isR = true) (hdis : ∀ i ∈ isR, i ∉ isC)
    (kk : ∀ (ad : Nat → Nat) (H1 : Heap) (locs1 : List Loc), va_P (dC, dI) vwCl (wr ++ w1 ad) H1 → va_D A0 (wr ++ w1 ad) → va_S A0 H0 H1 locs1 → W p l e R s m args below meth c H1 locs1 (cells + mc) (slots + ms) Q (F0 m (pc + 3) ls (.int r :: rest))) : W p l e R s m args below meth c H locs cells slots Q (F0 m pc ls st0) := by
  have hF := va_free (wc := wc) hD hS hA isC hC
  refine va_calli hr hS (fun q _ h => hF q h) hF (fun r' ad t H1 locs1 ht hvm hw hB hz1 hk1 hS1 => ?_)
  obtain ⟨hP1, hD1⟩ := hB
  rw [ht] at hP1
  obtain ⟨hP2, hD2⟩ := va_join (wr := wr) (w1 := w1 ad) hP hD isC isR hC hR hn hdis hk1 hF hP1 hD1
  subst hw
  exact kk ad H1 locs1 hP2 hD2 hS1
theorem z_calll {r : Int64} (hr : va_Run p l e R s m args below meth c H locs cells slots mc ms (F0 m pc ls st0) rest (zQl dC dI (va_A wc H.size) w1 r a) (va_A wc H.size)) (hP : va_P (dC, dI) vwCl ws H) (hD : va_D A0 ws) (hS : va_S A0 H0 H locs) (hA : ∀ q, H0.size ≤ q → A0 q) (isC isR : List Nat) (hC : isC.map (fun i => ws[i]?) = wc.map some) (hR : isR.map (fun i => ws[i]?) = wr.map some) (hn : va_nd isR = true) (hdis : ∀ i ∈ isR, i ∉ isC)
    (kk : ∀ (ad : Nat → Nat) (H1 : Heap) (locs1 : List Loc), va_P (dC, dI) vwCl (wr ++ w1 ad) H1 → va_D A0 (wr ++ w1 ad) → va_S A0 H0 H1 locs1 → W p l e R s m args below meth c H1 locs1 (cells + mc) (slots + ms) Q (F0 m (pc + 3) ls (.long r :: rest))) : W p l e R s m args below meth c H locs cells slots Q (F0 m pc ls st0) := by
  have hF := va_free (wc := wc) hD hS hA isC hC
  refine va_calll hr hS (fun q _ h => hF q h) hF (fun r' ad t H1 locs1 ht hvm hw hB hz1 hk1 hS1 => ?_)
  obtain ⟨hP1, hD1⟩ := hB
  rw [ht] at hP1
  obtain ⟨hP2, hD2⟩ := va_join (wr := wr) (w1 := w1 ad) hP hD isC isR hC hR hn hdis hk1 hF hP1 hD1
  subst hw
  exact kk ad H1 locs1 hP2 hD2 hS1
theorem z_callv (hr : va_Run p l e R s m args below meth c H locs cells slots mc ms (F0 m pc ls st0) rest (zQv dC dI (va_A wc H.size) w1 a) (va_A wc H.size)) (hP : va_P (dC, dI) vwCl ws H) (hD : va_D A0 ws) (hS : va_S A0 H0 H locs) (hA : ∀ q, H0.size ≤ q → A0 q) (isC isR : List Nat) (hC : isC.map (fun i => ws[i]?) = wc.map some) (hR : isR.map (fun i => ws[i]?) = wr.map some) (hn : va_nd isR = true) (hdis : ∀ i ∈ isR, i ∉ isC)
    (kk : ∀ (ad : Nat → Nat) (H1 : Heap) (locs1 : List Loc), va_P (dC, dI) vwCl (wr ++ w1 ad) H1 → va_D A0 (wr ++ w1 ad) → va_S A0 H0 H1 locs1 → W p l e R s m args below meth c H1 locs1 (cells + mc) (slots + ms) Q (F0 m (pc + 3) ls rest)) : W p l e R s m args below meth c H locs cells slots Q (F0 m pc ls st0) := by
  have hF := va_free (wc := wc) hD hS hA isC hC
  refine va_callv hr hS (fun q _ h => hF q h) hF (fun ad t H1 locs1 ht hvm hw hB hz1 hk1 hS1 => ?_)
  obtain ⟨hP1, hD1⟩ := hB
  rw [ht] at hP1
  obtain ⟨hP2, hD2⟩ := va_join (wr := wr) (w1 := w1 ad) hP hD isC isR hC hR hn hdis hk1 hF hP1 hD1
  exact kk ad H1 locs1 hP2 hD2 hS1
end ZC
theorem z_upd0 (k : Nat) : upd (fun _ => (0 : Int32)) k 0 = fun _ => 0 := by funext j; simp [upd]
theorem z_upN (k : Nat) : va_up (fun _ => (none : Option Nat)) k none = fun _ => none := by funext j; simp [va_up]
theorem z_cq {D : va_G} {cl : List vw_C} {cI cQ cA : ClassId} {C : String} {s : State} (h2 : va_K D cl ([(cI, .int), (cQ, .object C)] ++ [(cA, .object C)]) s) (h : va_K D cl [(cI, .int), (cQ, .object C)] s) : cA = cQ := by
  obtain ⟨-, _, _, -, -, -, e1⟩ := h2.2 2 _ rfl
  obtain ⟨-, _, _, -, -, -, e2⟩ := h.2 1 _ rfl
  exact Option.some.inj (e1.symm.trans e2)
theorem fa_lt (a b : Int32) : a < b ↔ a.toInt < b.toInt := Int32.lt_iff_toInt_lt
theorem fa_le (a b : Int32) : a ≤ b ↔ a.toInt ≤ b.toInt := Int32.le_iff_toInt_le
theorem fa_eq (a b : Int32) : a = b ↔ a.toInt = b.toInt := Int32.toInt_inj.symm

theorem z_lo (x : Int32) : -2147483648 ≤ x.toInt := by have := Int32.le_toInt x; simpa using this
theorem z_hi (x : Int32) : x.toInt ≤ 2147483647 := by have := Int32.toInt_lt x; omega
