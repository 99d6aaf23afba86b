theorem z_asg {C E : String} {s : State} (h : va_Nw (.castable C E) s) {comp c0 : ClassId} (h1 : s.vm.findClass E = some comp) (h2 : s.vm.findClass C = some c0) : s.vm.assignable c0 comp = true := by
  obtain ⟨c', t1, f1, f2, f3⟩ := Cond.castable_spec (va_Nw.use (A := #[]) rfl h)
  cases h2.symm.trans f1
  cases h1.symm.trans f2
  exact f3
theorem z_any {dC : Nat → ClassId} {dI : Nat → Nat → Nat} {cI cQ : ClassId} {s : State} {H : Heap} {PL : Nat → Nat → Int32 → Prop} {y k : Nat} {v : Int32} (hZ : zK dC dI cI cQ s) (hPl : zPl dC dI PL H) (hy : PL y k v) : va_Any "EachOnHisCue$Next" s H y := by
  obtain ⟨hk, hP⟩ := hPl y k v hy
  obtain ⟨hK, -, hN⟩ := hZ
  rcases hk with rfl | rfl | rfl | rfl | rfl | rfl
  · exact va_rAny (q0 := 0) (ci := 0) hK hP rfl rfl (fun comp c0 h1 h2 => z_asg (hN.2.2.2.2.2.2.2.2.2.2.2.2.2.2.2.2.2.2.2.2.2.1) h1 h2)
  · exact va_rAny (q0 := 0) (ci := 1) hK hP rfl rfl (fun comp c0 h1 h2 => z_asg (hN.2.2.2.2.2.2.2.2.2.2.2.2.2.2.2.2.2.2.2.2.2.2.1) h1 h2)
  · exact va_rAny (q0 := 0) (ci := 3) hK hP rfl rfl (fun comp c0 h1 h2 => z_asg (hN.2.2.2.2.2.2.2.2.2.2.2.2.2.2.2.2.2.2.2.2.2.2.2.1) h1 h2)
  · refine va_rAny (q0 := 0) (ci := 6) hK hP rfl rfl (fun comp c0 h1 h2 => ?_)
    have e := (hK.1 6 _ rfl).2
    cases h2.symm.trans e.1
    cases h1.symm.trans e.1
    exact va_assign e
  · exact va_rAny (q0 := 0) (ci := 8) hK hP rfl rfl (fun comp c0 h1 h2 => z_asg (hN.2.2.2.2.2.2.2.2.2.2.2.2.2.2.2.2.2.2.2.2.2.2.2.2.1) h1 h2)
  · exact va_rAny (q0 := 0) (ci := 10) hK hP rfl rfl (fun comp c0 h1 h2 => z_asg (hN.2.2.2.2.2.2.2.2.2.2.2.2.2.2.2.2.2.2.2.2.2.2.2.2.2) h1 h2)
theorem z_uqE {G : Nat → ZQ} {i k : Nat} {v : Int32} {o : Option Nat} : va_up (fun j => (G j).1) i o = fun j => (zUq G i (o, k, v) j).1 := by
  funext j
  unfold zUq
  by_cases q : j = i
  · subst q
    simp [va_up]
  · simp [va_up, q]
theorem z_upHp {PL : Nat → Nat → Int32 → Prop} {G : Nat → ZQ} {i y k : Nat} {v : Int32} (h : zHp PL G) (hv : PL y k v) : zHp PL (zUq G i (some y, k, v)) := by
  intro j x e
  by_cases q : j = i
  · subst q
    have e1 : zUq G j (some y, k, v) j = (some y, k, v) := by simp [zUq]
    rw [e1] at e ⊢
    cases e
    exact hv
  · have e1 : zUq G i (some y, k, v) j = G j := by simp [zUq, q]
    rw [e1] at e ⊢
    exact h j x e
theorem z_upHn {PL : Nat → Nat → Int32 → Prop} {G : Nat → ZQ} {i k : Nat} {v : Int32} (h : zHp PL G) : zHp PL (zUq G i (none, k, v)) := by
  intro j x e
  by_cases q : j = i
  · subst q
    have e1 : zUq G j (none, k, v) j = (none, k, v) := by simp [zUq]
    rw [e1] at e
    cases e
  · have e1 : zUq G i (none, k, v) j = G j := by simp [zUq, q]
    rw [e1] at e ⊢
    exact h j x e
def zWiG {S : Type} (dC : Nat → ClassId) (dI : Nat → Nat → Nat) (A : Nat → Prop) (w1 : S → va_W) (post : Int32 → S → Prop) := va_Qi post (fun u t => va_P (dC, dI) vwCl (w1 u) t.heap ∧ va_D A (w1 u)) A
def zWvG {S : Type} (dC : Nat → ClassId) (dI : Nat → Nat → Nat) (A : Nat → Prop) (w1 : S → va_W) (post : S → Prop) := va_Qv post (fun u t => va_P (dC, dI) vwCl (w1 u) t.heap ∧ va_D A (w1 u)) A
/-- the players as cells behind the others -/
def zPw (pw : va_W) : Prop := ∀ (i : Nat) (q : Nat × va_E), pw[i]? = some q → ∃ (k : Nat) (v : Int32), (k = 0 ∨ k = 1 ∨ k = 3 ∨ k = 6 ∨ k = 8 ∨ k = 10) ∧ q.2 = .inr (k, [.int v])
def zPLs (pw : va_W) (y k : Nat) (v : Int32) : Prop := ∃ i : Nat, pw[i]? = some (y, .inr (k, [.int v]))
def zMo (a b : va_W) : Prop := ∀ y k v, zPLs a y k v → zPLs b y k v
theorem z_pmR {a : va_W} : zMo a a := fun _ _ _ h => h
theorem z_pmT {a b c : va_W} (h : zMo b c) (g : zMo a b) : zMo a c := fun y k v q => h y k v (g y k v q)
theorem z_hpM {a b : va_W} {G : Nat → ZQ} (h : zMo a b) (g : zHp (zPLs a) G) : zHp (zPLs b) G := fun i y q => h _ _ _ (g i y q)
theorem z_pwN : zPw [] := by
  intro i q h
  simp at h
theorem z_pwC {pw : va_W} {q k : Nat} {v : Int32} (h : zPw pw) (hk : k = 0 ∨ k = 1 ∨ k = 3 ∨ k = 6 ∨ k = 8 ∨ k = 10) : zPw ((q, .inr (k, [.int v])) :: pw) := by
  intro i x hx
  cases i with
  | zero =>
    have e : x = (q, .inr (k, [.int v])) := (Option.some.inj hx).symm
    rw [e]
    exact ⟨k, v, hk, rfl⟩
  | succ i => exact h i x hx
theorem z_plUp {pw : va_W} {x : Nat × va_E} : zMo pw (x :: pw) := fun y k v h => by
  obtain ⟨i, q⟩ := h
  exact ⟨i + 1, q⟩
theorem z_pl0 {pw : va_W} {y k : Nat} {v : Int32} : zPLs ((y, .inr (k, [.int v])) :: pw) y k v := ⟨0, rfl⟩
theorem z_atR {X pw : va_W} {i : Nat} {q : Nat × va_E} (h : pw[i]? = some q) : (X ++ pw)[X.length + i]? = some q := by
  rw [List.getElem?_append_right (Nat.le_add_right _ _), Nat.add_sub_cancel_left]
  exact h
theorem z_plT {dC : Nat → ClassId} {dI : Nat → Nat → Nat} {X pw : va_W} {H : Heap} (hpw : zPw pw) (hP : va_P (dC, dI) vwCl (X ++ pw) H) : zPl dC dI (zPLs pw) H := by
  intro y k v hy
  obtain ⟨i, hi⟩ := hy
  obtain ⟨k2, v2, hk2, he⟩ := hpw i _ hi
  have ek : k = k2 := by
    have h9 : (.inr (k, [.int v]) : va_E) = .inr (k2, [.int v2]) := he
    cases h9
    rfl
  refine ⟨by rw [ek]; exact hk2, fun j q hq => ?_⟩
  have hz : j < 1 := (List.getElem?_eq_some_iff.mp hq).1
  rw [show j = 0 by omega] at hq
  cases hq
  exact hP (X.length + i) _ (z_atR hi)
theorem z_mapL {X pl cx : va_W} {is : List Nat} (h : is.map (fun i => X[i]?) = cx.map some) : is.map (fun i => (X ++ pl)[i]?) = cx.map some := by
  rw [← h]
  refine List.map_congr_left (fun i hi => ?_)
  have h1 : X[i]? ∈ is.map (fun i => X[i]?) := List.mem_map.mpr ⟨i, hi, rfl⟩
  rw [h] at h1
  obtain ⟨w, -, hw⟩ := List.mem_map.mp h1
  have hlt : i < X.length := (List.getElem?_eq_some_iff.mp hw.symm).1
  exact List.getElem?_append_left hlt
theorem z_subT {D : va_G} {cl : List vw_C} {X cx pl : va_W} {H : Heap} (hP : va_P D cl (X ++ pl) H) (is : List Nat) (hC : is.map (fun i => X[i]?) = cx.map some) : va_P D cl (cx ++ pl) H := fun k q hk => hP _ q (va_part is hC k q hk)
theorem z_preT {dC : Nat → ClassId} {dI : Nat → Nat → Nat} {cI cQ : ClassId} {X pw wc : va_W} {A : Nat → Prop} {s : State} {H : Heap} {av : List Value} (hZ : zK dC dI cI cQ s) (hpw : zPw pw) (hP : va_P (dC, dI) vwCl (X ++ pw) H) (hD : va_D A (X ++ pw)) (isC : List Nat) (hC : isC.map (fun i => X[i]?) = wc.map some) (hn : va_nd isC = true) : ∀ U : State, U.heap = H → s.WarmedH U.vm → va_Pc av (zBP dC dI cI cQ (zPLs pw) wc H.size) av.toArray U := by
  intro U hU hW
  obtain ⟨h1, h2⟩ := z_pre (av := av) hZ hP hD isC (z_mapL hC) hn U hU hW
  refine ⟨h1, h2, by rw [hU]; exact z_plT hpw hP, fun y k v hy => ?_⟩
  obtain ⟨i, hi⟩ := hy
  have hi2 := z_atR (X := X) hi
  refine ⟨by rw [hU]; exact (hP _ _ hi2).lt, fun q hq e2 => ?_⟩
  obtain ⟨z, hk⟩ := List.getElem?_of_mem hq
  obtain ⟨j, h5, h6⟩ := va_in_of isC hC hk
  have hj : j < X.length := (List.getElem?_eq_some_iff.mp h6).1
  have h7 : (X ++ pw)[j]? = some q := by rw [List.getElem?_append_left hj]; exact h6
  have h8 := hD.1 _ _ q _ h7 hi2 e2
  omega
theorem z_preTT {dC : Nat → ClassId} {dI : Nat → Nat → Nat} {cI cQ : ClassId} {X pl cx : va_W} {A : Nat → Prop} {s : State} {H : Heap} {av : List Value} (hZ : zK dC dI cI cQ s) (hP : va_P (dC, dI) vwCl (X ++ pl) H) (hD : va_D A (X ++ pl)) (isC : List Nat) (hC : isC.map (fun i => X[i]?) = cx.map some) (hn : va_nd isC = true) : ∀ U : State, U.heap = H → s.WarmedH U.vm → va_Pc av (zB dC dI cI cQ (cx ++ pl) H.size) av.toArray U := by
  intro U hU hW
  refine ⟨rfl, by rw [hU], ?_, zK.warm hW hZ, (hD.part isC hn hC).weaken (fun _ _ _ _ => trivial)⟩
  rw [hU]
  exact z_subT hP isC hC
section ZG
variable {p : Program} {l : Launch} {e : Env} {R : Room} {s : State} {m : MethodId} {args : Array Value} {below : List Frame} {meth : Method} {c : Code} {H : Heap} {locs : List Loc} {cells slots : Nat} {Q : State → Prop}
variable {pc : Nat} {ls : Array Slot} {rest st0 : List Value} {a : Array Value} {A0 : Nat → Prop} {H0 : Heap} {mc ms : Nat}
variable {dC : Nat → ClassId} {dI : Nat → Nat → Nat} {ws wc wr X pl cx : va_W} {S : Type} {w1 rx pl1 : S → va_W}
theorem z_cwiG {post : Int32 → S → Prop} (hr : va_Run p l e R s m args below meth c H locs cells slots mc ms (F0 m pc ls st0) rest (zWiG dC dI (va_A wc H.size) w1 post a) (va_A wc H.size)) (hP : va_P (dC, dI) vwCl ws H) (hD : va_D A0 ws) (hS : va_S A0 H0 H locs) (hA : ∀ q, H0.size ≤ q → A0 q) (isC isR : List Nat) (hC : isC.map (fun i => ws[i]?) = wc.map some) (hR : isR.map (fun i => ws[i]?) = wr.map some) (hn : va_nd isR = true) (hdis : ∀ i ∈ isR, i ∉ isC)
    (kk : ∀ (r : Int32) (u : S) (H1 : Heap) (locs1 : List Loc), post r u → va_P (dC, dI) vwCl (wr ++ w1 u) H1 → va_D A0 (wr ++ w1 u) → va_S A0 H0 H1 locs1 → W p l e R s m args below meth c H1 locs1 (cells + mc) (slots + ms) Q (F0 m (pc + 3) ls (.int r :: rest))) : W p l e R s m args below meth c H locs cells slots Q (F0 m pc ls st0) := by
  have hF := va_free (wc := wc) hD hS hA isC hC
  refine va_calli hr hS (fun q _ h => hF q h) hF (fun r' u t H1 locs1 ht hvm hw hB hz1 hk1 hS1 => ?_)
  obtain ⟨hP1, hD1⟩ := hB
  rw [ht] at hP1
  obtain ⟨hP2, hD2⟩ := va_join (wr := wr) (w1 := w1 u) hP hD isC isR hC hR hn hdis hk1 hF hP1 hD1
  exact kk r' u H1 locs1 hw hP2 hD2 hS1
theorem z_cwvG {post : S → Prop} (hr : va_Run p l e R s m args below meth c H locs cells slots mc ms (F0 m pc ls st0) rest (zWvG dC dI (va_A wc H.size) w1 post a) (va_A wc H.size)) (hP : va_P (dC, dI) vwCl ws H) (hD : va_D A0 ws) (hS : va_S A0 H0 H locs) (hA : ∀ q, H0.size ≤ q → A0 q) (isC isR : List Nat) (hC : isC.map (fun i => ws[i]?) = wc.map some) (hR : isR.map (fun i => ws[i]?) = wr.map some) (hn : va_nd isR = true) (hdis : ∀ i ∈ isR, i ∉ isC)
    (kk : ∀ (u : S) (H1 : Heap) (locs1 : List Loc), post u → va_P (dC, dI) vwCl (wr ++ w1 u) H1 → va_D A0 (wr ++ w1 u) → va_S A0 H0 H1 locs1 → W p l e R s m args below meth c H1 locs1 (cells + mc) (slots + ms) Q (F0 m (pc + 3) ls rest)) : W p l e R s m args below meth c H locs cells slots Q (F0 m pc ls st0) := by
  have hF := va_free (wc := wc) hD hS hA isC hC
  refine va_callv hr hS (fun q _ h => hF q h) hF (fun u t H1 locs1 ht hvm hw hB hz1 hk1 hS1 => ?_)
  obtain ⟨hP1, hD1⟩ := hB
  rw [ht] at hP1
  obtain ⟨hP2, hD2⟩ := va_join (wr := wr) (w1 := w1 u) hP hD isC isR hC hR hn hdis hk1 hF hP1 hD1
  exact kk u H1 locs1 hw hP2 hD2 hS1
theorem z_cwiT {post : Int32 → S → Prop} (hr : va_Run p l e R s m args below meth c H locs cells slots mc ms (F0 m pc ls st0) rest (va_Qi post (fun u t => va_P (dC, dI) vwCl (w1 u) t.heap ∧ va_D (va_A wc H.size) (w1 u)) (va_A wc H.size) a) (va_A wc H.size)) (hP : va_P (dC, dI) vwCl (X ++ pl) H) (hD : va_D A0 (X ++ pl)) (hS : va_S A0 H0 H locs) (hA : ∀ q, H0.size ≤ q → A0 q) (isC isR : List Nat) (hC : isC.map (fun i => X[i]?) = wc.map some) (hR : isR.map (fun i => X[i]?) = wr.map some) (hn : va_nd isR = true) (hdis : ∀ i ∈ isR, i ∉ isC)
    (kk : ∀ (r : Int32) (u : S) (H1 : Heap) (locs1 : List Loc), post r u → va_P (dC, dI) vwCl ((wr ++ w1 u) ++ pl) H1 → va_D A0 ((wr ++ w1 u) ++ pl) → va_S A0 H0 H1 locs1 → W p l e R s m args below meth c H1 locs1 (cells + mc) (slots + ms) Q (F0 m (pc + 3) ls (.int r :: rest))) : W p l e R s m args below meth c H locs cells slots Q (F0 m pc ls st0) := by
  have hF := va_free (wc := wc) hD hS hA isC (z_mapL hC)
  refine va_calli hr hS (fun q _ h => hF q h) hF (fun r' u t H1 locs1 ht hvm hw hB hz1 hk1 hS1 => ?_)
  obtain ⟨hP1, hD1⟩ := hB
  rw [ht] at hP1
  obtain ⟨hP2, hD2⟩ := va_joinQ (wr := wr) (w1 := w1 u) hP hD isC isR hC hR hn hdis hk1 hF hP1 hD1
  exact kk r' u H1 locs1 hw hP2 hD2 hS1
theorem z_cwlT {post : Int64 → S → Prop} (hr : va_Run p l e R s m args below meth c H locs cells slots mc ms (F0 m pc ls st0) rest (va_Ql post (fun u t => va_P (dC, dI) vwCl (w1 u) t.heap ∧ va_D (va_A wc H.size) (w1 u)) (va_A wc H.size) a) (va_A wc H.size)) (hP : va_P (dC, dI) vwCl (X ++ pl) H) (hD : va_D A0 (X ++ pl)) (hS : va_S A0 H0 H locs) (hA : ∀ q, H0.size ≤ q → A0 q) (isC isR : List Nat) (hC : isC.map (fun i => X[i]?) = wc.map some) (hR : isR.map (fun i => X[i]?) = wr.map some) (hn : va_nd isR = true) (hdis : ∀ i ∈ isR, i ∉ isC)
    (kk : ∀ (r : Int64) (u : S) (H1 : Heap) (locs1 : List Loc), post r u → va_P (dC, dI) vwCl ((wr ++ w1 u) ++ pl) H1 → va_D A0 ((wr ++ w1 u) ++ pl) → va_S A0 H0 H1 locs1 → W p l e R s m args below meth c H1 locs1 (cells + mc) (slots + ms) Q (F0 m (pc + 3) ls (.long r :: rest))) : W p l e R s m args below meth c H locs cells slots Q (F0 m pc ls st0) := by
  have hF := va_free (wc := wc) hD hS hA isC (z_mapL hC)
  refine va_calll hr hS (fun q _ h => hF q h) hF (fun r' u t H1 locs1 ht hvm hw hB hz1 hk1 hS1 => ?_)
  obtain ⟨hP1, hD1⟩ := hB
  rw [ht] at hP1
  obtain ⟨hP2, hD2⟩ := va_joinQ (wr := wr) (w1 := w1 u) hP hD isC isR hC hR hn hdis hk1 hF hP1 hD1
  exact kk r' u H1 locs1 hw hP2 hD2 hS1
theorem z_cwvT {post : S → Prop} (hr : va_Run p l e R s m args below meth c H locs cells slots mc ms (F0 m pc ls st0) rest (va_Qv post (fun u t => va_P (dC, dI) vwCl (w1 u) t.heap ∧ va_D (va_A wc H.size) (w1 u)) (va_A wc H.size) a) (va_A wc H.size)) (hP : va_P (dC, dI) vwCl (X ++ pl) H) (hD : va_D A0 (X ++ pl)) (hS : va_S A0 H0 H locs) (hA : ∀ q, H0.size ≤ q → A0 q) (isC isR : List Nat) (hC : isC.map (fun i => X[i]?) = wc.map some) (hR : isR.map (fun i => X[i]?) = wr.map some) (hn : va_nd isR = true) (hdis : ∀ i ∈ isR, i ∉ isC)
    (kk : ∀ (u : S) (H1 : Heap) (locs1 : List Loc), post u → va_P (dC, dI) vwCl ((wr ++ w1 u) ++ pl) H1 → va_D A0 ((wr ++ w1 u) ++ pl) → va_S A0 H0 H1 locs1 → W p l e R s m args below meth c H1 locs1 (cells + mc) (slots + ms) Q (F0 m (pc + 3) ls rest)) : W p l e R s m args below meth c H locs cells slots Q (F0 m pc ls st0) := by
  have hF := va_free (wc := wc) hD hS hA isC (z_mapL hC)
  refine va_callv hr hS (fun q _ h => hF q h) hF (fun u t H1 locs1 ht hvm hw hB hz1 hk1 hS1 => ?_)
  obtain ⟨hP1, hD1⟩ := hB
  rw [ht] at hP1
  obtain ⟨hP2, hD2⟩ := va_joinQ (wr := wr) (w1 := w1 u) hP hD isC isR hC hR hn hdis hk1 hF hP1 hD1
  exact kk u H1 locs1 hw hP2 hD2 hS1
theorem z_cwrT {post : S → Prop} {w2 : S → Nat → va_W} (hr : va_Run p l e R s m args below meth c H locs cells slots mc ms (F0 m pc ls st0) rest (va_Qr post (fun u ra t => va_P (dC, dI) vwCl (w2 u ra) t.heap ∧ va_D (va_A wc H.size) (w2 u ra)) (va_A wc H.size) a) (va_A wc H.size)) (hP : va_P (dC, dI) vwCl (X ++ pl) H) (hD : va_D A0 (X ++ pl)) (hS : va_S A0 H0 H locs) (hA : ∀ q, H0.size ≤ q → A0 q) (isC isR : List Nat) (hC : isC.map (fun i => X[i]?) = wc.map some) (hR : isR.map (fun i => X[i]?) = wr.map some) (hn : va_nd isR = true) (hdis : ∀ i ∈ isR, i ∉ isC)
    (kk : ∀ (u : S) (ra : Nat) (H1 : Heap) (locs1 : List Loc), post u → va_P (dC, dI) vwCl ((wr ++ w2 u ra) ++ pl) H1 → va_D A0 ((wr ++ w2 u ra) ++ pl) → va_S A0 H0 H1 locs1 → W p l e R s m args below meth c H1 locs1 (cells + mc) (slots + ms) Q (F0 m (pc + 3) ls (.ref ra :: rest))) : W p l e R s m args below meth c H locs cells slots Q (F0 m pc ls st0) := by
  have hF := va_free (wc := wc) hD hS hA isC (z_mapL hC)
  refine va_callr hr hS (fun q _ h => hF q h) hF (fun u ra t H1 locs1 ht hvm hw hB hz1 hk1 hS1 => ?_)
  obtain ⟨hP1, hD1⟩ := hB
  rw [ht] at hP1
  obtain ⟨hP2, hD2⟩ := va_joinQ (wr := wr) (w1 := w2 u ra) hP hD isC isR hC hR hn hdis hk1 hF hP1 hD1
  exact kk u ra H1 locs1 hw hP2 hD2 hS1
theorem z_cwiP {post : Int32 → S → Prop} (hr : va_Run p l e R s m args below meth c H locs cells slots mc ms (F0 m pc ls st0) rest (va_Qi post (fun u t => va_P (dC, dI) vwCl (rx u ++ pl1 u) t.heap ∧ va_D (va_A (cx ++ pl) H.size) (rx u ++ pl1 u)) (va_A (cx ++ pl) H.size) a) (va_A (cx ++ pl) H.size)) (hP : va_P (dC, dI) vwCl (X ++ pl) H) (hD : va_D A0 (X ++ pl)) (hS : va_S A0 H0 H locs) (hA : ∀ q, H0.size ≤ q → A0 q) (isC isR : List Nat) (hC : isC.map (fun i => X[i]?) = cx.map some) (hR : isR.map (fun i => X[i]?) = wr.map some) (hn : va_nd isR = true) (hdis : ∀ i ∈ isR, i ∉ isC)
    (kk : ∀ (r : Int32) (u : S) (H1 : Heap) (locs1 : List Loc), post r u → va_P (dC, dI) vwCl ((wr ++ rx u) ++ pl1 u) H1 → va_D A0 ((wr ++ rx u) ++ pl1 u) → va_S A0 H0 H1 locs1 → W p l e R s m args below meth c H1 locs1 (cells + mc) (slots + ms) Q (F0 m (pc + 3) ls (.int r :: rest))) : W p l e R s m args below meth c H locs cells slots Q (F0 m pc ls st0) := by
  have hF := va_freeP (cx := cx) hD hS hA isC hC
  refine va_calli hr hS (fun q _ h => hF q h) hF (fun r' u t H1 locs1 ht hvm hw hB hz1 hk1 hS1 => ?_)
  obtain ⟨hP1, hD1⟩ := hB
  rw [ht] at hP1
  obtain ⟨hP2, hD2⟩ := va_joinP (wr := wr) (rx := rx u) (pl1 := pl1 u) hP hD isC isR hC hR hn hdis hk1 hF hP1 hD1
  exact kk r' u H1 locs1 hw hP2 hD2 hS1
end ZG
/-- zUq, hidden from 'generalize' -/
def zUr (G : Nat → ZQ) (i : Nat) (x : ZQ) : Nat → ZQ := zUq G i x

