/-! the words of every contract: the classes, one class of int arrays, one of Next arrays, the nest links of the constructors -/
def zN (U : State) : Prop := va_Nw (.methodLinkNest RX0 7 yX11_leastOf "EachOnHisCue") U ∧ va_Nw (.methodLinkNest RX11 9 yX7_init "EachOnHisCue") U ∧ va_Nw (.methodLinkNest RX11 25 yX2_init "EachOnHisCue") U ∧ va_Nw (.methodLinkNest RX11 37 yX4_init "EachOnHisCue") U ∧ va_Nw (.methodLinkNest RX2 41 yX11_bitAt "EachOnHisCue") U ∧ va_Nw (.methodLinkNest RX2 11 yX5_init "EachOnHisCue") U ∧ va_Nw (.methodLinkNest RX2 20 yX9_init "EachOnHisCue") U ∧ va_Nw (.methodLinkNest RX3 7 yX11_greatestOf "EachOnHisCue") U ∧ va_Nw (.methodLinkNest RX4 67 yX11_playerOf "EachOnHisCue") U ∧ va_Nw (.methodLinkNest RX5 40 yX11_bitAt "EachOnHisCue") U ∧ va_Nw (.methodLinkNest RX6 15 yX11_leastOf "EachOnHisCue") U ∧ va_Nw (.methodLinkNest RX6 19 yX11_bitAt "EachOnHisCue") U ∧ va_Nw (.methodLinkNest RX7 51 yX9_init "EachOnHisCue") U ∧ va_Nw (.methodLinkNest RX7 110 yX11_leastOf "EachOnHisCue") U ∧ va_Nw (.methodLinkNest RX7 113 yX11_greatestOf "EachOnHisCue") U ∧ va_Nw (.methodLinkNest RX7 83 yX11_bitAt "EachOnHisCue") U ∧ va_Nc RX0 "EachOnHisCue$Sick" U ∧ va_Nc RX1 "EachOnHisCue$Sick" U ∧ va_Nc RX3 "EachOnHisCue$Sick" U ∧ va_Nc RX6 "EachOnHisCue$Sick" U ∧ va_Nc RX8 "EachOnHisCue$Sick" U ∧ va_Nw (.castable RX0 "EachOnHisCue$Next") U ∧ va_Nw (.castable RX1 "EachOnHisCue$Next") U ∧ va_Nw (.castable RX3 "EachOnHisCue$Next") U ∧ va_Nw (.castable RX8 "EachOnHisCue$Next") U ∧ va_Nw (.castable RX10 "EachOnHisCue$Next") U
theorem zN.warm {s U : State} (hW : s.WarmedH U.vm) (h : zN s) : zN U := ⟨va_Nw.warmM hW h.1, va_Nw.warmM hW h.2.1, va_Nw.warmM hW h.2.2.1, va_Nw.warmM hW h.2.2.2.1, va_Nw.warmM hW h.2.2.2.2.1, va_Nw.warmM hW h.2.2.2.2.2.1, va_Nw.warmM hW h.2.2.2.2.2.2.1, va_Nw.warmM hW h.2.2.2.2.2.2.2.1, va_Nw.warmM hW h.2.2.2.2.2.2.2.2.1, va_Nw.warmM hW h.2.2.2.2.2.2.2.2.2.1, va_Nw.warmM hW h.2.2.2.2.2.2.2.2.2.2.1, va_Nw.warmM hW h.2.2.2.2.2.2.2.2.2.2.2.1, va_Nw.warmM hW h.2.2.2.2.2.2.2.2.2.2.2.2.1, va_Nw.warmM hW h.2.2.2.2.2.2.2.2.2.2.2.2.2.1, va_Nw.warmM hW h.2.2.2.2.2.2.2.2.2.2.2.2.2.2.1, va_Nw.warmM hW h.2.2.2.2.2.2.2.2.2.2.2.2.2.2.2.1, va_Nc.moved hW.alike h.2.2.2.2.2.2.2.2.2.2.2.2.2.2.2.2.1, va_Nc.moved hW.alike h.2.2.2.2.2.2.2.2.2.2.2.2.2.2.2.2.2.1, va_Nc.moved hW.alike h.2.2.2.2.2.2.2.2.2.2.2.2.2.2.2.2.2.2.1, va_Nc.moved hW.alike h.2.2.2.2.2.2.2.2.2.2.2.2.2.2.2.2.2.2.2.1, va_Nc.moved hW.alike h.2.2.2.2.2.2.2.2.2.2.2.2.2.2.2.2.2.2.2.2.1, va_Nw.warmC hW h.2.2.2.2.2.2.2.2.2.2.2.2.2.2.2.2.2.2.2.2.2.1, va_Nw.warmC hW h.2.2.2.2.2.2.2.2.2.2.2.2.2.2.2.2.2.2.2.2.2.2.1, va_Nw.warmC hW h.2.2.2.2.2.2.2.2.2.2.2.2.2.2.2.2.2.2.2.2.2.2.2.1, va_Nw.warmC hW h.2.2.2.2.2.2.2.2.2.2.2.2.2.2.2.2.2.2.2.2.2.2.2.2.1, va_Nw.warmC hW h.2.2.2.2.2.2.2.2.2.2.2.2.2.2.2.2.2.2.2.2.2.2.2.2.2⟩
theorem zN.same {u U : State} (e : u.vm = U.vm) (h : zN u) : zN U := ⟨va_Nw.same rfl e h.1, va_Nw.same rfl e h.2.1, va_Nw.same rfl e h.2.2.1, va_Nw.same rfl e h.2.2.2.1, va_Nw.same rfl e h.2.2.2.2.1, va_Nw.same rfl e h.2.2.2.2.2.1, va_Nw.same rfl e h.2.2.2.2.2.2.1, va_Nw.same rfl e h.2.2.2.2.2.2.2.1, va_Nw.same rfl e h.2.2.2.2.2.2.2.2.1, va_Nw.same rfl e h.2.2.2.2.2.2.2.2.2.1, va_Nw.same rfl e h.2.2.2.2.2.2.2.2.2.2.1, va_Nw.same rfl e h.2.2.2.2.2.2.2.2.2.2.2.1, va_Nw.same rfl e h.2.2.2.2.2.2.2.2.2.2.2.2.1, va_Nw.same rfl e h.2.2.2.2.2.2.2.2.2.2.2.2.2.1, va_Nw.same rfl e h.2.2.2.2.2.2.2.2.2.2.2.2.2.2.1, va_Nw.same rfl e h.2.2.2.2.2.2.2.2.2.2.2.2.2.2.2.1, va_Nc.moved (by rw [← e]; exact Vm.Alike.refl u.vm) h.2.2.2.2.2.2.2.2.2.2.2.2.2.2.2.2.1, va_Nc.moved (by rw [← e]; exact Vm.Alike.refl u.vm) h.2.2.2.2.2.2.2.2.2.2.2.2.2.2.2.2.2.1, va_Nc.moved (by rw [← e]; exact Vm.Alike.refl u.vm) h.2.2.2.2.2.2.2.2.2.2.2.2.2.2.2.2.2.2.1, va_Nc.moved (by rw [← e]; exact Vm.Alike.refl u.vm) h.2.2.2.2.2.2.2.2.2.2.2.2.2.2.2.2.2.2.2.1, va_Nc.moved (by rw [← e]; exact Vm.Alike.refl u.vm) h.2.2.2.2.2.2.2.2.2.2.2.2.2.2.2.2.2.2.2.2.1, va_Nw.same rfl e h.2.2.2.2.2.2.2.2.2.2.2.2.2.2.2.2.2.2.2.2.2.1, va_Nw.same rfl e h.2.2.2.2.2.2.2.2.2.2.2.2.2.2.2.2.2.2.2.2.2.2.1, va_Nw.same rfl e h.2.2.2.2.2.2.2.2.2.2.2.2.2.2.2.2.2.2.2.2.2.2.2.1, va_Nw.same rfl e h.2.2.2.2.2.2.2.2.2.2.2.2.2.2.2.2.2.2.2.2.2.2.2.2.1, va_Nw.same rfl e h.2.2.2.2.2.2.2.2.2.2.2.2.2.2.2.2.2.2.2.2.2.2.2.2.2⟩
def zK (dC : Nat → ClassId) (dI : Nat → Nat → Nat) (cI cQ : ClassId) (U : State) : Prop := va_K (dC, dI) vwCl [(cI, .int), (cQ, .object "EachOnHisCue$Next")] U ∧ va_AO "EachOnHisCue$Next" U ∧ zN U
theorem zK.warm {dC : Nat → ClassId} {dI : Nat → Nat → Nat} {cI cQ : ClassId} {s U : State} (hW : s.WarmedH U.vm) (h : zK dC dI cI cQ s) : zK dC dI cI cQ U := ⟨va_K.moved hW.alike h.1, va_AO.moved hW.alike h.2.1, zN.warm hW h.2.2⟩
theorem zK.same {dC : Nat → ClassId} {dI : Nat → Nat → Nat} {cI cQ : ClassId} {u U : State} (e : u.vm = U.vm) (h : zK dC dI cI cQ u) : zK dC dI cI cQ U := ⟨va_K.moved (by rw [← e]; exact Vm.Alike.refl u.vm) h.1, va_AO.moved (by rw [← e]; exact Vm.Alike.refl u.vm) h.2.1, zN.same e h.2.2⟩
/-- a contract's start: the heap's size, the cells, the words -/
def zB (dC : Nat → ClassId) (dI : Nat → Nat → Nat) (cI cQ : ClassId) (w : va_W) (sz : Nat) : State → Prop := fun U => U.heap.size = sz ∧ va_P (dC, dI) vwCl w U.heap ∧ zK dC dI cI cQ U ∧ va_D (fun _ => True) w
/-- a contract's end: one answer, the cells as they are then (ad: the addresses of the new ones) -/
def zQi (dC : Nat → ClassId) (dI : Nat → Nat → Nat) (A : Nat → Prop) (w1 : (Nat → Nat) → va_W) (r : Int32) := va_Qi (fun (x : Int32) (_ : Nat → Nat) => x = r) (fun ad t => va_P (dC, dI) vwCl (w1 ad) t.heap ∧ va_D A (w1 ad)) A
def zQl (dC : Nat → ClassId) (dI : Nat → Nat → Nat) (A : Nat → Prop) (w1 : (Nat → Nat) → va_W) (r : Int64) := va_Ql (fun (x : Int64) (_ : Nat → Nat) => x = r) (fun ad t => va_P (dC, dI) vwCl (w1 ad) t.heap ∧ va_D A (w1 ad)) A
def zQv (dC : Nat → ClassId) (dI : Nat → Nat → Nat) (A : Nat → Prop) (w1 : (Nat → Nat) → va_W) := va_Qv (fun (_ : Nat → Nat) => True) (fun ad t => va_P (dC, dI) vwCl (w1 ad) t.heap ∧ va_D A (w1 ad)) A
theorem z_blind {dC : Nat → ClassId} {dI : Nat → Nat → Nat} {cI cQ : ClassId} {w : va_W} {sz : Nat} {av : List Value} : FrameBlind (va_Pc av (zB dC dI cI cQ w sz)) := fun a U g mk q => by
  obtain ⟨q0, q1, qP, qK, qD⟩ := q
  exact ⟨q0, q1, qP, zK.same rfl qK, qD⟩
theorem z_pre {dC : Nat → ClassId} {dI : Nat → Nat → Nat} {cI cQ : ClassId} {ws wc : va_W} {A : Nat → Prop} {s : State} {H : Heap} {av : List Value} (hZ : zK dC dI cI cQ s) (hP : va_P (dC, dI) vwCl ws H) (hD : va_D A ws) (isC : List Nat) (hC : isC.map (fun i => ws[i]?) = wc.map some) (hn : va_nd isC = true) : ∀ U : State, U.heap = H → s.WarmedH U.vm → va_Pc av (zB dC dI cI cQ wc H.size) av.toArray U := by
  intro U hU hW
  refine ⟨rfl, by rw [hU], ?_, zK.warm hW hZ, (hD.sub isC hn hC).weaken (fun _ _ _ _ => trivial)⟩
  rw [hU]
  intro k q hq
  have h1 : (isC.map (fun i => ws[i]?))[k]? = some (some q) := by rw [hC, List.getElem?_map, hq]; rfl
  rw [List.getElem?_map] at h1
  cases hi : isC[k]? with
  | none => rw [hi] at h1; cases h1
  | some i => rw [hi] at h1; exact hP i q (Option.some.inj h1)
section ZC
variable {p : Program} {l : Launch} {e : Env} {R : Room} {s : State} {m : MethodId} {args : Array Value} {below : List Frame} {meth : Method} {c : Code} {H : Heap} {locs : List Loc} {cells slots : Nat} {Q : State → Prop}
variable {pc : Nat} {ls : Array Slot} {rest st0 : List Value} {a : Array Value} {A0 : Nat → Prop} {H0 : Heap} {mc ms : Nat}
variable {dC : Nat → ClassId} {dI : Nat → Nat → Nat} {ws wc wr : va_W} {w1 : (Nat → Nat) → va_W}
theorem z_calli {r : Int32} (hr : va_Run p l e R s m args below meth c H locs cells slots mc ms (F0 m pc ls st0) rest (zQi dC dI (va_A wc H.size) w1 r a) (va_A wc H.size)) (hP : va_P (dC, dI) vwCl ws H) (hD : va_D A0 ws) (hS : va_S A0 H0 H locs) (hA : ∀ q, H0.size ≤ q → A0 q) (isC isR : List Nat) (hC : isC.map (fun i => ws[i]?) = wc.map some) (hR : isR.map (fun i => ws[i]?) = wr.map some) (hn : va_nd isR = true) (hdis : ∀ i ∈ isR, i ∉ isC)
    (kk : ∀ (ad : Nat → Nat) (H1 : Heap) (locs1 : List Loc), va_P (dC, dI) vwCl (wr ++ w1 ad) H1 → va_D A0 (wr ++ w1 ad) → va_S A0 H0 H1 locs1 → W p l e R s m args below meth c H1 locs1 (cells + mc) (slots + ms) Q (F0 m (pc + 3) ls (.int r :: rest))) : W p l e R s m args below meth c H locs cells slots Q (F0 m pc ls st0) := by
  have hF := va_free (wc := wc) hD hS hA isC hC
  refine va_calli hr hS (fun q _ h => hF q h) hF (fun r' ad t H1 locs1 ht hvm hw hB hz1 hk1 hS1 => ?_)
  obtain ⟨hP1, hD1⟩ := hB
  rw [ht] at hP1
  obtain ⟨hP2, hD2⟩ := va_join (wr := wr) (w1 := w1 ad) hP hD isC isR hC hR hn hdis hk1 hF hP1 hD1
  subst hw
  exact kk ad H1 locs1 hP2 hD2 hS1
theorem z_calll {r : Int64} (hr : va_Run p l e R s m args below meth c H locs cells slots mc ms (F0 m pc ls st0) rest (zQl dC dI (va_A wc H.size) w1 r a) (va_A wc H.size)) (hP : va_P (dC, dI) vwCl ws H) (hD : va_D A0 ws) (hS : va_S A0 H0 H locs) (hA : ∀ q, H0.size ≤ q → A0 q) (isC isR : List Nat) (hC : isC.map (fun i => ws[i]?) = wc.map some) (hR : isR.map (fun i => ws[i]?) = wr.map some) (hn : va_nd isR = true) (hdis : ∀ i ∈ isR, i ∉ isC)
    (kk : ∀ (ad : Nat → Nat) (H1 : Heap) (locs1 : List Loc), va_P (dC, dI) vwCl (wr ++ w1 ad) H1 → va_D A0 (wr ++ w1 ad) → va_S A0 H0 H1 locs1 → W p l e R s m args below meth c H1 locs1 (cells + mc) (slots + ms) Q (F0 m (pc + 3) ls (.long r :: rest))) : W p l e R s m args below meth c H locs cells slots Q (F0 m pc ls st0) := by
  have hF := va_free (wc := wc) hD hS hA isC hC
  refine va_calll hr hS (fun q _ h => hF q h) hF (fun r' ad t H1 locs1 ht hvm hw hB hz1 hk1 hS1 => ?_)
  obtain ⟨hP1, hD1⟩ := hB
  rw [ht] at hP1
  obtain ⟨hP2, hD2⟩ := va_join (wr := wr) (w1 := w1 ad) hP hD isC isR hC hR hn hdis hk1 hF hP1 hD1
  subst hw
  exact kk ad H1 locs1 hP2 hD2 hS1
theorem z_callv (hr : va_Run p l e R s m args below meth c H locs cells slots mc ms (F0 m pc ls st0) rest (zQv dC dI (va_A wc H.size) w1 a) (va_A wc H.size)) (hP : va_P (dC, dI) vwCl ws H) (hD : va_D A0 ws) (hS : va_S A0 H0 H locs) (hA : ∀ q, H0.size ≤ q → A0 q) (isC isR : List Nat) (hC : isC.map (fun i => ws[i]?) = wc.map some) (hR : isR.map (fun i => ws[i]?) = wr.map some) (hn : va_nd isR = true) (hdis : ∀ i ∈ isR, i ∉ isC)
    (kk : ∀ (ad : Nat → Nat) (H1 : Heap) (locs1 : List Loc), va_P (dC, dI) vwCl (wr ++ w1 ad) H1 → va_D A0 (wr ++ w1 ad) → va_S A0 H0 H1 locs1 → W p l e R s m args below meth c H1 locs1 (cells + mc) (slots + ms) Q (F0 m (pc + 3) ls rest)) : W p l e R s m args below meth c H locs cells slots Q (F0 m pc ls st0) := by
  have hF := va_free (wc := wc) hD hS hA isC hC
  refine va_callv hr hS (fun q _ h => hF q h) hF (fun ad t H1 locs1 ht hvm hw hB hz1 hk1 hS1 => ?_)
  obtain ⟨hP1, hD1⟩ := hB
  rw [ht] at hP1
  obtain ⟨hP2, hD2⟩ := va_join (wr := wr) (w1 := w1 ad) hP hD isC isR hC hR hn hdis hk1 hF hP1 hD1
  exact kk ad H1 locs1 hP2 hD2 hS1
end ZC
theorem z_upd0 (k : Nat) : upd (fun _ => (0 : Int32)) k 0 = fun _ => 0 := by funext j; simp [upd]
theorem z_upN (k : Nat) : va_up (fun _ => (none : Option Nat)) k none = fun _ => none := by funext j; simp [va_up]
theorem z_cq {D : va_G} {cl : List vw_C} {cI cQ cA : ClassId} {C : String} {s : State} (h2 : va_K D cl ([(cI, .int), (cQ, .object C)] ++ [(cA, .object C)]) s) (h : va_K D cl [(cI, .int), (cQ, .object C)] s) : cA = cQ := by
  obtain ⟨-, _, _, -, -, -, e1⟩ := h2.2 2 _ rfl
  obtain ⟨-, _, _, -, -, -, e2⟩ := h.2 1 _ rfl
  exact Option.some.inj (e1.symm.trans e2)
theorem fa_lt (a b : Int32) : a < b ↔ a.toInt < b.toInt := Int32.lt_iff_toInt_lt
theorem fa_le (a b : Int32) : a ≤ b ↔ a.toInt ≤ b.toInt := Int32.le_iff_toInt_le
theorem fa_eq (a b : Int32) : a = b ↔ a.toInt = b.toInt := Int32.toInt_inj.symm

def zGd (ws : List Cond) : Prop := ∀ w ∈ ws, goodWord w = true
theorem z_gdO {ws : List Cond} (h : ws.all goodWord = true) : zGd ws := fun w hw => List.all_eq_true.mp h w hw
theorem z_gdA {a b : List Cond} (ha : zGd a) (hb : zGd b) : zGd (a ++ b) := fun w h => (List.mem_append.mp h).elim (ha w) (hb w)
theorem z_gdC {a : Cond} {b : List Cond} (ha : goodWord a = true) (hb : zGd b) : zGd (a :: b) := fun w h => (List.mem_cons.mp h).elim (fun e => by rw [e]; exact ha) (hb w)
theorem z_gdI {big ws : List Cond} (hm : ∀ w ∈ ws, w ∈ big) (hg : zGd ws) : GoodIn big ws := fun w h => ⟨hm w h, good_of_word (hg w h)⟩
/-- a reader's start: the cells, the words -/
def zRB (dC : Nat → ClassId) (dI : Nat → Nat → Nat) (cI cQ : ClassId) (w : va_W) : State → Prop := fun U => va_P (dC, dI) vwCl w U.heap ∧ zK dC dI cI cQ U
theorem z_blindR {dC : Nat → ClassId} {dI : Nat → Nat → Nat} {cI cQ : ClassId} {w : va_W} {av : List Value} : FrameBlind (va_Pc av (zRB dC dI cI cQ w)) := fun a U g mk q => by
  obtain ⟨q0, qP, qK⟩ := q
  exact ⟨q0, qP, zK.same rfl qK⟩
theorem z_preR {dC : Nat → ClassId} {dI : Nat → Nat → Nat} {cI cQ : ClassId} {ws wc : va_W} {s : State} {H : Heap} {av : List Value} (hZ : zK dC dI cI cQ s) (hP : va_P (dC, dI) vwCl ws H) (isC : List Nat) (hC : isC.map (fun i => ws[i]?) = wc.map some) : ∀ U : State, U.heap = H → s.WarmedH U.vm → va_Pc av (zRB dC dI cI cQ wc) av.toArray U := by
  intro U hU hW
  refine ⟨rfl, ?_, zK.warm hW hZ⟩
  rw [hU]
  intro k q hq
  have h1 : (isC.map (fun i => ws[i]?))[k]? = some (some q) := by rw [hC, List.getElem?_map, hq]; rfl
  rw [List.getElem?_map] at h1
  cases hi : isC[k]? with
  | none => rw [hi] at h1; cases h1
  | some i => rw [hi] at h1; exact hP i q (Option.some.inj h1)
section ZR
variable {p : Program} {l : Launch} {e : Env} {R : Room} {s : State} {m : MethodId} {args : Array Value} {below : List Frame} {meth : Method} {c : Code} {H : Heap} {locs : List Loc} {cells slots : Nat} {Q : State → Prop}
variable {pc : Nat} {ls : Array Slot} {rest st0 : List Value} {a : Array Value}
theorem z_rdi {post : Int32 → Prop} (hr : va_Run p l e R s m args below meth c H locs cells slots 0 0 (F0 m pc ls st0) rest (vp_Si post a) (fun _ => False))
    (kk : ∀ r : Int32, post r → W p l e R s m args below meth c H locs cells slots Q (F0 m (pc + 3) ls (.int r :: rest))) : W p l e R s m args below meth c H locs cells slots Q (F0 m pc ls st0) := by
  intro T hT X
  obtain ⟨v, st₀, t, T', L, h0, X', hL, e1, e2, ⟨r, hv, hp, hh⟩, st⟩ := hr T hT X
  cases hv
  obtain ⟨t2, a1, b1⟩ := kk r hp T' (by rw [e1, hh, h0]) (Stand.forget X' (fun q h => (hL q h).elim))
  exact ⟨t2, st t2 a1, b1⟩
theorem z_rdl {post : Int64 → Prop} (hr : va_Run p l e R s m args below meth c H locs cells slots 0 0 (F0 m pc ls st0) rest (vp_Sl post a) (fun _ => False))
    (kk : ∀ r : Int64, post r → W p l e R s m args below meth c H locs cells slots Q (F0 m (pc + 3) ls (.long r :: rest))) : W p l e R s m args below meth c H locs cells slots Q (F0 m pc ls st0) := by
  intro T hT X
  obtain ⟨v, st₀, t, T', L, h0, X', hL, e1, e2, ⟨r, hv, hp, hh⟩, st⟩ := hr T hT X
  cases hv
  obtain ⟨t2, a1, b1⟩ := kk r hp T' (by rw [e1, hh, h0]) (Stand.forget X' (fun q h => (hL q h).elim))
  exact ⟨t2, st t2 a1, b1⟩
end ZR
theorem z_lt {x y : Int32} {a b : Int} (hx : x.toInt = a) (hy : y.toInt = b) (h : x < y) : a < b := by rw [← hx, ← hy]; exact (fa_lt _ _).mp h
theorem z_le {x y : Int32} {a b : Int} (hx : x.toInt = a) (hy : y.toInt = b) (h : x ≤ y) : a ≤ b := by rw [← hx, ← hy]; exact (fa_le _ _).mp h
theorem z_eq {x y : Int32} {a b : Int} (hx : x.toInt = a) (hy : y.toInt = b) (h : x = y) : a = b := by rw [← hx, ← hy]; exact (fa_eq _ _).mp h
theorem z_ne {x y : Int32} {a b : Int} (hx : x.toInt = a) (hy : y.toInt = b) (h : ¬ x = y) : a ≠ b := by rw [← hx, ← hy]; exact fun q => h ((fa_eq _ _).mpr q)
theorem z_nlt {x y : Int32} {a b : Int} (hx : x.toInt = a) (hy : y.toInt = b) (h : ¬ x < y) : b ≤ a := by rw [← hx, ← hy]; exact Int.not_lt.mp fun q => h ((fa_lt _ _).mpr q)
theorem z_nle {x y : Int32} {a b : Int} (hx : x.toInt = a) (hy : y.toInt = b) (h : ¬ x ≤ y) : b < a := by rw [← hx, ← hy]; exact Int.not_le.mp fun q => h ((fa_le _ _).mpr q)
theorem z_lo (x : Int32) : -2147483648 ≤ x.toInt := by have := Int32.le_toInt x; simpa using this
theorem z_hi (x : Int32) : x.toInt ≤ 2147483647 := by have := Int32.toInt_lt x; omega
theorem z_bm {v : Int} (h1 : -2147483648 ≤ v) (h2 : v ≤ 2147483647) : v.bmod (2 ^ 32) = v := by rw [Int.bmod_def]; omega
theorem z_add {x y : Int32} {a b : Int} (hx : x.toInt = a) (hy : y.toInt = b) (h1 : -2147483648 ≤ a + b) (h2 : a + b ≤ 2147483647) : (x + y).toInt = a + b := by
  rw [Int32.toInt_add, hx, hy]; exact z_bm h1 h2
theorem z_sub {x y : Int32} {a b : Int} (hx : x.toInt = a) (hy : y.toInt = b) (h1 : -2147483648 ≤ a - b) (h2 : a - b ≤ 2147483647) : (x - y).toInt = a - b := by
  rw [Int32.toInt_sub, hx, hy]; exact z_bm h1 h2
theorem z_mul {x y : Int32} {a b : Int} (hx : x.toInt = a) (hy : y.toInt = b) (h1 : -2147483648 ≤ a * b) (h2 : a * b ≤ 2147483647) : (x * y).toInt = a * b := by
  rw [Int32.toInt_mul, hx, hy]; exact z_bm h1 h2
theorem z_in {x : Int32} {n : Nat} (h0 : 0 ≤ x.toInt) (h1 : x.toInt < n) : vp_in x n := vp_in_iff.mpr ⟨h0, h1⟩
theorem z_n0 {x : Int32} (h : x.toInt ≠ 0) : ¬ x = 0 := fun q => h (by rw [q]; rfl)
theorem z_and1 (x : Int32) : 0 ≤ (x &&& 1).toInt ∧ (x &&& 1).toInt ≤ 1 := by
  obtain ⟨j, hj, e⟩ := pk_andE x (m := 1) 1 (by decide)
  rw [e, nI_toInt (by omega)]
  omega
theorem z_nb {x : Int32} (h0 : 0 ≤ x.toInt) (h1 : x.toInt ≤ 1) : narrow .boolean (.int x) = .int x := by
  rcases (show x.toInt = 0 ∨ x.toInt = 1 by omega) with h | h
  · rw [show x = 0 from (fa_eq _ _).mpr h]; rfl
  · rw [show x = 1 from (fa_eq _ _).mpr h]; rfl
theorem z_min {x y : Int32} {a b : Int} (hx : x.toInt = a) (hy : y.toInt = b) : (if y < x then y else x).toInt ≤ a ∧ (if y < x then y else x).toInt ≤ b ∧ ((if y < x then y else x).toInt = a ∨ (if y < x then y else x).toInt = b) := by
  by_cases h : y < x
  · have q := (fa_lt _ _).mp h
    rw [if_pos h]; omega
  · have q := z_nlt rfl rfl h
    rw [if_neg h]; omega
theorem z_max {x y : Int32} {a b : Int} (hx : x.toInt = a) (hy : y.toInt = b) : (if x < y then y else x).toInt ≥ a ∧ (if x < y then y else x).toInt ≥ b ∧ ((if x < y then y else x).toInt = a ∨ (if x < y then y else x).toInt = b) := by
  by_cases h : x < y
  · have q := (fa_lt _ _).mp h
    rw [if_pos h]; omega
  · have q := z_nlt rfl rfl h
    rw [if_neg h]; omega
/-- what a writer leaves open: changed ints, changed arrays -/
abbrev ZU : Type := (Nat → Int32) × (Nat → Nat → Int32)
def zWi (dC : Nat → ClassId) (dI : Nat → Nat → Nat) (A : Nat → Prop) (w1 : ZU → va_W) (post : Int32 → ZU → Prop) := va_Qi post (fun u t => va_P (dC, dI) vwCl (w1 u) t.heap ∧ va_D A (w1 u)) A
def zWl (dC : Nat → ClassId) (dI : Nat → Nat → Nat) (A : Nat → Prop) (w1 : ZU → va_W) (post : Int64 → ZU → Prop) := va_Ql post (fun u t => va_P (dC, dI) vwCl (w1 u) t.heap ∧ va_D A (w1 u)) A
def zWv (dC : Nat → ClassId) (dI : Nat → Nat → Nat) (A : Nat → Prop) (w1 : ZU → va_W) (post : ZU → Prop) := va_Qv post (fun u t => va_P (dC, dI) vwCl (w1 u) t.heap ∧ va_D A (w1 u)) A
section ZW
variable {p : Program} {l : Launch} {e : Env} {R : Room} {s : State} {m : MethodId} {args : Array Value} {below : List Frame} {meth : Method} {c : Code} {H : Heap} {locs : List Loc} {cells slots : Nat} {Q : State → Prop}
variable {pc : Nat} {ls : Array Slot} {rest st0 : List Value} {a : Array Value} {A0 : Nat → Prop} {H0 : Heap} {mc ms : Nat}
variable {dC : Nat → ClassId} {dI : Nat → Nat → Nat} {ws wc wr : va_W} {w1 : ZU → va_W}
theorem z_cwi {post : Int32 → ZU → Prop} (hr : va_Run p l e R s m args below meth c H locs cells slots mc ms (F0 m pc ls st0) rest (zWi dC dI (va_A wc H.size) w1 post a) (va_A wc H.size)) (hP : va_P (dC, dI) vwCl ws H) (hD : va_D A0 ws) (hS : va_S A0 H0 H locs) (hA : ∀ q, H0.size ≤ q → A0 q) (isC isR : List Nat) (hC : isC.map (fun i => ws[i]?) = wc.map some) (hR : isR.map (fun i => ws[i]?) = wr.map some) (hn : va_nd isR = true) (hdis : ∀ i ∈ isR, i ∉ isC)
    (kk : ∀ (r : Int32) (u : ZU) (H1 : Heap) (locs1 : List Loc), post r u → va_P (dC, dI) vwCl (wr ++ w1 u) H1 → va_D A0 (wr ++ w1 u) → va_S A0 H0 H1 locs1 → W p l e R s m args below meth c H1 locs1 (cells + mc) (slots + ms) Q (F0 m (pc + 3) ls (.int r :: rest))) : W p l e R s m args below meth c H locs cells slots Q (F0 m pc ls st0) := by
  have hF := va_free (wc := wc) hD hS hA isC hC
  refine va_calli hr hS (fun q _ h => hF q h) hF (fun r' u t H1 locs1 ht hvm hw hB hz1 hk1 hS1 => ?_)
  obtain ⟨hP1, hD1⟩ := hB
  rw [ht] at hP1
  obtain ⟨hP2, hD2⟩ := va_join (wr := wr) (w1 := w1 u) hP hD isC isR hC hR hn hdis hk1 hF hP1 hD1
  exact kk r' u H1 locs1 hw hP2 hD2 hS1
theorem z_cwl {post : Int64 → ZU → Prop} (hr : va_Run p l e R s m args below meth c H locs cells slots mc ms (F0 m pc ls st0) rest (zWl dC dI (va_A wc H.size) w1 post a) (va_A wc H.size)) (hP : va_P (dC, dI) vwCl ws H) (hD : va_D A0 ws) (hS : va_S A0 H0 H locs) (hA : ∀ q, H0.size ≤ q → A0 q) (isC isR : List Nat) (hC : isC.map (fun i => ws[i]?) = wc.map some) (hR : isR.map (fun i => ws[i]?) = wr.map some) (hn : va_nd isR = true) (hdis : ∀ i ∈ isR, i ∉ isC)
    (kk : ∀ (r : Int64) (u : ZU) (H1 : Heap) (locs1 : List Loc), post r u → va_P (dC, dI) vwCl (wr ++ w1 u) H1 → va_D A0 (wr ++ w1 u) → va_S A0 H0 H1 locs1 → W p l e R s m args below meth c H1 locs1 (cells + mc) (slots + ms) Q (F0 m (pc + 3) ls (.long r :: rest))) : W p l e R s m args below meth c H locs cells slots Q (F0 m pc ls st0) := by
  have hF := va_free (wc := wc) hD hS hA isC hC
  refine va_calll hr hS (fun q _ h => hF q h) hF (fun r' u t H1 locs1 ht hvm hw hB hz1 hk1 hS1 => ?_)
  obtain ⟨hP1, hD1⟩ := hB
  rw [ht] at hP1
  obtain ⟨hP2, hD2⟩ := va_join (wr := wr) (w1 := w1 u) hP hD isC isR hC hR hn hdis hk1 hF hP1 hD1
  exact kk r' u H1 locs1 hw hP2 hD2 hS1
theorem z_cwv {post : ZU → Prop} (hr : va_Run p l e R s m args below meth c H locs cells slots mc ms (F0 m pc ls st0) rest (zWv dC dI (va_A wc H.size) w1 post a) (va_A wc H.size)) (hP : va_P (dC, dI) vwCl ws H) (hD : va_D A0 ws) (hS : va_S A0 H0 H locs) (hA : ∀ q, H0.size ≤ q → A0 q) (isC isR : List Nat) (hC : isC.map (fun i => ws[i]?) = wc.map some) (hR : isR.map (fun i => ws[i]?) = wr.map some) (hn : va_nd isR = true) (hdis : ∀ i ∈ isR, i ∉ isC)
    (kk : ∀ (u : ZU) (H1 : Heap) (locs1 : List Loc), post u → va_P (dC, dI) vwCl (wr ++ w1 u) H1 → va_D A0 (wr ++ w1 u) → va_S A0 H0 H1 locs1 → W p l e R s m args below meth c H1 locs1 (cells + mc) (slots + ms) Q (F0 m (pc + 3) ls rest)) : W p l e R s m args below meth c H locs cells slots Q (F0 m pc ls st0) := by
  have hF := va_free (wc := wc) hD hS hA isC hC
  refine va_callv hr hS (fun q _ h => hF q h) hF (fun u t H1 locs1 ht hvm hw hB hz1 hk1 hS1 => ?_)
  obtain ⟨hP1, hD1⟩ := hB
  rw [ht] at hP1
  obtain ⟨hP2, hD2⟩ := va_join (wr := wr) (w1 := w1 u) hP hD isC isR hC hR hn hdis hk1 hF hP1 hD1
  exact kk u H1 locs1 hw hP2 hD2 hS1
end ZW
theorem z_updB {f : Nat → Int32} {lo hi : Int} {i : Nat} {x : Int32} (h : ∀ k, lo ≤ (f k).toInt ∧ (f k).toInt ≤ hi) (h1 : lo ≤ x.toInt) (h2 : x.toInt ≤ hi) : ∀ k, lo ≤ (upd f i x k).toInt ∧ (upd f i x k).toInt ≤ hi := by
  intro k
  by_cases hk : k = i
  · subst hk; rw [pk_us]; exact ⟨h1, h2⟩
  · rw [pk_un hk]; exact h k
theorem z_fb {x : Int32} (h0 : 0 ≤ x.toInt) (h1 : x.toInt ≤ 1) : fits .boolean (.int x) = true := by
  rcases (show x.toInt = 0 ∨ x.toInt = 1 by omega) with h | h
  · rw [show x = 0 from (fa_eq _ _).mpr h]; rfl
  · rw [show x = 1 from (fa_eq _ _).mpr h]; rfl
theorem z_neg {x : Int32} {a : Int} (hx : x.toInt = a) (h1 : -2147483647 ≤ a) (h2 : a ≤ 2147483647) : (-x).toInt = -a := by
  rw [Int32.toInt_neg, hx]; exact z_bm (by omega) (by omega)
/-- the players: each address of PL holds an object of one of the six kinds -/
def zPl (dC : Nat → ClassId) (dI : Nat → Nat → Nat) (PL : Nat → Nat → Int32 → Prop) (H : Heap) : Prop := ∀ y k v, PL y k v → (k = 0 ∨ k = 1 ∨ k = 3 ∨ k = 6 ∨ k = 8 ∨ k = 10) ∧ va_P (dC, dI) vwCl [(y, .inr (k, [.int v]))] H
theorem z_spl {dC : Nat → ClassId} {dI : Nat → Nat → Nat} {y k : Nat} {v : Int32} {H : Heap} (h : (k = 0 ∨ k = 1 ∨ k = 3 ∨ k = 6 ∨ k = 8 ∨ k = 10) ∧ va_P (dC, dI) vwCl [(y, .inr (k, [.int v]))] H) : ∃ (kk : Nat) (vv : Int32), k = kk ∧ v = vv ∧ (kk = 0 ∨ kk = 1 ∨ kk = 3 ∨ kk = 6 ∨ kk = 8 ∨ kk = 10) ∧ va_P (dC, dI) vwCl [(y, .inr (kk, [.int vv]))] H := ⟨k, v, rfl, rfl, h⟩
/-- a row of players: address, class and figure at each place -/
abbrev ZQ : Type := Option Nat × Nat × Int32
def zHp (PL : Nat → Nat → Int32 → Prop) (G : Nat → ZQ) : Prop := ∀ i y, (G i).1 = some y → PL y (G i).2.1 (G i).2.2
def zUq (G : Nat → ZQ) (i : Nat) (x : ZQ) : Nat → ZQ := fun j => if j = i then x else G j
def zRBP (dC : Nat → ClassId) (dI : Nat → Nat → Nat) (cI cQ : ClassId) (PL : Nat → Nat → Int32 → Prop) (w : va_W) : State → Prop := fun U => va_P (dC, dI) vwCl w U.heap ∧ zK dC dI cI cQ U ∧ zPl dC dI PL U.heap
theorem z_blindRP {dC : Nat → ClassId} {dI : Nat → Nat → Nat} {cI cQ : ClassId} {PL : Nat → Nat → Int32 → Prop} {w : va_W} {av : List Value} : FrameBlind (va_Pc av (zRBP dC dI cI cQ PL w)) := fun a U g mk q => by
  obtain ⟨q0, qP, qK, qL⟩ := q
  exact ⟨q0, qP, zK.same rfl qK, qL⟩
theorem z_preRP {dC : Nat → ClassId} {dI : Nat → Nat → Nat} {cI cQ : ClassId} {PL : Nat → Nat → Int32 → Prop} {ws wc : va_W} {s : State} {H : Heap} {av : List Value} (hZ : zK dC dI cI cQ s) (hP : va_P (dC, dI) vwCl ws H) (hPl : zPl dC dI PL H) (isC : List Nat) (hC : isC.map (fun i => ws[i]?) = wc.map some) : ∀ U : State, U.heap = H → s.WarmedH U.vm → va_Pc av (zRBP dC dI cI cQ PL wc) av.toArray U := by
  intro U hU hW
  obtain ⟨h1, h2, h3⟩ := z_preR (av := av) hZ hP isC hC U hU hW
  exact ⟨h1, h2, h3, by rw [hU]; exact hPl⟩
/-- which class a player of a kind is of -/
def zCi (k : Int) : Nat := if k = 1 then 0 else if k = 2 then 8 else if k = 3 then 1 else if k = 4 then 10 else if k = 5 then 3 else 6
theorem z_ci0 {k : Int} (h : k = 1) : 0 = zCi k := by rw [h]; rfl
theorem z_ci8 {k : Int} (h : k = 2) : 8 = zCi k := by rw [h]; rfl
theorem z_ci1 {k : Int} (h : k = 3) : 1 = zCi k := by rw [h]; rfl
theorem z_ci10 {k : Int} (h : k = 4) : 10 = zCi k := by rw [h]; rfl
theorem z_ci3 {k : Int} (h : k = 5) : 3 = zCi k := by rw [h]; rfl
theorem z_ci6 {k : Int} (h : k < 1 ∨ 5 < k) : 6 = zCi k := by
  unfold zCi
  rw [if_neg (by omega), if_neg (by omega), if_neg (by omega), if_neg (by omega), if_neg (by omega)]

