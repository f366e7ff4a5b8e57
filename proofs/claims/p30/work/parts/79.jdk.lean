theorem gE.face {G : gG} {A : Nat → Prop} {U : State} {H : Heap} (h : gE G A U H) (i : Nat) {q : String × MethodName × MethodName} (hq : gFw[i]? = some q) : va_Fw q.1 q.2.1 q.2.2 U := h.2.2.1.1 q (List.mem_of_getElem? hq)
theorem gE.cast {G : gG} {A : Nat → Prop} {U : State} {H : Heap} (h : gE G A U H) (i : Nat) {q : String × String} (hq : gCs[i]? = some q) : va_Nw (.castable q.1 q.2) U := h.2.2.1.2 q (List.mem_of_getElem? hq)
/-- the k-th Integer of the cache -/
abbrev gI (G : gG) (k : Nat) : Nat := G.2.2.2 (k + 3)
theorem gI_val (v : Nat) (hv : v < 128) : vb_c (v + 128) = nI v := by
  unfold vb_c
  have h := pk_sub (a := v + 128) (b := 128) (by omega)
  rw [Nat.add_sub_cancel] at h
  exact h
theorem gRA {s : State} {cA cB : ClassId} {C : String} (h1 : va_RA s cA (.object C)) (h2 : va_RA s cB (.object C)) : cA = cB := by
  obtain ⟨-, -, -, -, -, h1⟩ := h1
  obtain ⟨-, -, -, -, -, h2⟩ := h2
  exact Option.some.inj (h1.symm.trans h2)
section GJD
variable {p : Program} {l : Launch} {e : Env} {R : Room} {s : State} {m : MethodId} {args : Array Value} {below : List Frame} {meth : Method} {c : Code} {H : Heap} {locs : List Loc} {cells slots : Nat} {Q : State → Prop}
variable {cc : ByteArray} {pc : Nat} {ls : Array Slot} {rest : List Value} {A : Nat → Prop} {ws : va_W} {G : gG} {a : Nat}
/-- an Integer of the cache is an object that may lie in a list -/
theorem gI_recv (hE : gE G A s s.heap) (hS : va_S A s.heap H locs) {k : Nat} (hk : k < 256) : ∃ cell : Cell, H[gI G k]? = some cell ∧ cell.vm.isStatics = false ∧ s.vm.findClass RJ6 = some cell.cls := by
  obtain ⟨cell, h1, h2, h3, -⟩ := (hE.2.2.2.2.2.2.1 k hk).kept hS.2.1
  exact ⟨cell, h1, h2, h3⟩
theorem gI_any (hE : gE G A s s.heap) (hS : va_S A s.heap H locs) {k : Nat} (hk : k < 256) : va_Any "java/lang/Object" s H (gI G k) := by
  obtain ⟨cell, h1, h2, h3⟩ := gI_recv hE hS hk
  obtain ⟨kC, hkC, -⟩ := Vm.findClass_spec h3
  exact ⟨cell, h1, h2, ⟨kC, hkC⟩, fun comp h => vb_asgC (hE.cast 1 rfl) comp _ h h3⟩
/-- an array of ints too -/
theorem gA_any (hE : gE G A s s.heap) (hK : va_K (gD G) vwCl (gT G) s) (hP : va_P (gD G) vwCl ws H) {q0 : Nat} {x : vp_A} (ha : ws[q0]? = some (a, .inl (G.2.2.1 0, x))) : va_Any "java/lang/Object" s H a := by
  have hc : s.vm.findClass "[I" = some (G.2.2.1 0) := (hK.2 0 _ rfl).2
  obtain ⟨kC, hkC, -⟩ := Vm.findClass_spec hc
  have h0 : H[a]? = some (vp_cell (G.2.2.1 0) x) := hP q0 _ ha
  have hv : (vp_cell (G.2.2.1 0) x).vm.isStatics = false := by
    obtain ⟨n, x⟩ := x
    rcases x with x | x | x | x | x <;> rfl
  have hcl : (vp_cell (G.2.2.1 0) x).cls = G.2.2.1 0 := by
    obtain ⟨n, x⟩ := x
    rcases x with x | x | x | x | x <;> rfl
  exact ⟨_, h0, hv, ⟨kC, by rw [hcl]; exact hkC⟩, fun comp h => by rw [hcl]; exact vb_asgC (hE.cast 0 rfl) comp _ h hc⟩
theorem gQ_newo {n : Nat} {own : String} {index : Nat} (hx : p.tables.exec = Jvm.exec) (hb : c.code = cc) (hown : s.vm.findClass own = some m.cls) (hE : gE G A s s.heap) (hclink : (Cond.classLink own index "java/lang/Object").before args s = true) (hK : va_K (gD G) vwCl (gT G) s) (hP : va_P (gD G) vwCl ws H) (hD : va_D A ws) (hS : va_S A s.heap H locs) (hA : ∀ q, s.heap.size ≤ q → A q) (hn : n < 2 ^ 27) (hcells : cells + 1 ≤ R.cells) (hslots : slots + n ≤ R.slots) (hdg : decode cc pc = .ok (.anewarray index, 3))
    (kk : ∀ (q : Nat) (H1 : Heap), va_P (gD G) vwCl (ws ++ [(q, .inl (G.2.2.1 4, n, .inr (.inr (.inr (.inr (fun _ => none))))))]) H1 → va_D A (ws ++ [(q, .inl (G.2.2.1 4, n, .inr (.inr (.inr (.inr (fun _ => none))))))]) → va_S A s.heap H1 locs → W p l e R s m args below meth c H1 locs (cells + 1) (slots + n) Q (F0 m (pc + 3) ls (.ref q :: rest))) : W p l e R s m args below meth c H locs cells slots Q (F0 m pc ls (.int (nI n) :: rest)) := by
  refine va_newq (C := "java/lang/Object") (N' := n) hx hb hown hclink hE.2.1.1.2.2 hK hP hD hS hA (nI_pos (by omega)) (nI_clamp (by omega)) (by omega) hcells hslots hdg (fun q cA H1 hK1 hP1 hD1 hS1 => ?_)
  cases gRA (hK.2 4 _ rfl).2 (hK1.2 5 _ rfl).2
  exact kk q H1 hP1 hD1 hS1
theorem gQ_ast {i n v : Nat} {f : Nat → Option Nat} (hx : p.tables.exec = Jvm.exec) (hb : c.code = cc) (hK : va_K (gD G) vwCl (gT G) s) (hP : va_P (gD G) vwCl ws H) (hD : va_D A ws) (hS : va_S A s.heap H locs) (q0 : Nat) (ha : ws[q0]? = some (a, .inl (G.2.2.1 4, n, .inr (.inr (.inr (.inr f)))))) (hr : va_Any "java/lang/Object" s H v) (hi : i < n) (hn : n < 2 ^ 31) (hdg : decode cc pc = .ok (.aastore, 1))
    (kk : ∀ (H1 : Heap) (locs1 : List Loc), va_P (gD G) vwCl (ws.set q0 (a, .inl (G.2.2.1 4, n, .inr (.inr (.inr (.inr (va_up f i (some v)))))))) H1 → va_D A (ws.set q0 (a, .inl (G.2.2.1 4, n, .inr (.inr (.inr (.inr (va_up f i (some v)))))))) → va_S A s.heap H1 locs1 → W p l e R s m args below meth c H1 locs1 cells slots Q (F0 m (pc + 1) ls rest)) : W p l e R s m args below meth c H locs cells slots Q (F0 m pc ls (.ref v :: .int (nI i) :: .ref a :: rest)) := by
  have hcl : (nI i).toNatClampNeg = i := nI_clamp (by omega)
  refine va_astqM (E := "java/lang/Object") hx hb hK hP hD hS q0 4 ha rfl hr (vp_in_nI hi hn) hdg (fun H1 locs1 hP1 hD1 hS1 => ?_)
  rw [hcl] at hP1 hD1
  exact kk H1 locs1 hP1 hD1 hS1
theorem gQ_ald {i n v : Nat} {f : Nat → Option Nat} (hx : p.tables.exec = Jvm.exec) (hb : c.code = cc) (hK : va_K (gD G) vwCl (gT G) s) (hP : va_P (gD G) vwCl ws H) (q0 : Nat) (ha : ws[q0]? = some (a, .inl (G.2.2.1 4, n, .inr (.inr (.inr (.inr f)))))) (hi : i < n) (hn : n < 2 ^ 31) (hv : f i = some v) (hdg : decode cc pc = .ok (.aaload, 1))
    (kk : W p l e R s m args below meth c H locs cells slots Q (F0 m (pc + 1) ls (.ref v :: rest))) : W p l e R s m args below meth c H locs cells slots Q (F0 m pc ls (.int (nI i) :: .ref a :: rest)) := by
  have hcl : (nI i).toNatClampNeg = i := nI_clamp (by omega)
  refine va_aldq (C := "java/lang/Object") hx hb hK hP q0 4 ha rfl (vp_in_nI hi hn) hdg ?_
  rw [hcl, hv]
  exact kk
end GJD
/-- what may lie in a list: objects that the tail holds, or the JDK -/
def gEl (G : gG) (Z : va_W) (El : Nat → Prop) : Prop := ∀ (s : State) (A : Nat → Prop) (H : Heap) (locs : List Loc), gE G A s s.heap → va_K (gD G) vwCl (gT G) s → va_S A s.heap H locs → va_P (gD G) vwCl Z H → ∀ y, El y → va_Any "java/lang/Object" s H y
theorem gtail {D : va_G} {cl : List vw_C} {X Z : va_W} {H : Heap} (h : va_P D cl (X ++ Z) H) : va_P D cl Z H := fun k q hk => h (X.length + k) q (by rw [List.getElem?_append_right (Nat.le_add_right _ _), Nat.add_sub_cancel_left]; exact hk)
theorem gEl_I (G : gG) : gEl G [] (fun y => ∃ k, k < 256 ∧ y = gI G k) := fun _ _ _ _ hE _ hS _ _ ⟨_, hk, e⟩ => e ▸ gI_any hE hS hk
theorem gEl_A (G : gG) (LP : List Nat) (F : Nat → vp_A) : gEl G (va_pl LP (fun a => .inl (G.2.2.1 0, F a))) (fun y => y ∈ LP) := fun _ _ _ _ hE hK _ hP y hy => by
  obtain ⟨k, hk⟩ := va_pl_get (X := []) (f := fun a => (.inl (G.2.2.1 0, F a) : va_E)) hy
  exact gA_any (x := F y) hE hK hP hk
section GJE
variable {p : Program} {l : Launch} {e : Env} {R : Room} {s : State} {m : MethodId} {args : Array Value} {below : List Frame} {meth : Method} {c : Code} {H : Heap} {locs : List Loc} {cells slots : Nat} {Q : State → Prop}
variable {cc : ByteArray} {pc : Nat} {ls : Array Slot} {rest : List Value} {A : Nat → Prop} {ws : va_W} {G : gG} {a : Nat}
theorem gO_recv (hK : va_K (gD G) vwCl (gT G) s) (hP : va_P (gD G) vwCl ws H) (q0 : Nat) {n : Nat} {f : Nat → Option Nat} (ha : ws[q0]? = some (a, .inl (G.2.2.1 4, n, .inr (.inr (.inr (.inr f)))))) : ∃ cell : Cell, H[a]? = some cell ∧ cell.vm.isStatics = false ∧ s.vm.findClass "[Ljava/lang/Object;" = some cell.cls := by
  have h := (hK.2 4 _ rfl).2
  exact ⟨_, hP q0 _ ha, rfl, va_nmO h rfl⟩
theorem gQ_copy {a0 n0 n1 k : Nat} {f g : Nat → Option Nat} {own : String} {index : Nat} (hx : p.tables.exec = Jvm.exec) (hb : c.code = cc) (hml : c.maxLocals = ls.size) (hown : s.vm.findClass own = some m.cls) (hlink : (Cond.methodLink own index arraycopyName).before args s = true) (hnat : (Cond.native arraycopyName).before args s = true) (hstat : (Cond.static arraycopyName).before args s = true) (hini : (Cond.initialized "java/lang/System").before args s = true)
    (hK : va_K (gD G) vwCl (gT G) s) (hP : va_P (gD G) vwCl ws H) (hD : va_D A ws) (hS : va_S A s.heap H locs) (q0 q1 : Nat) (ha0 : ws[q0]? = some (a0, .inl (G.2.2.1 4, n0, .inr (.inr (.inr (.inr f)))))) (ha1 : ws[q1]? = some (a, .inl (G.2.2.1 4, n1, .inr (.inr (.inr (.inr g)))))) (hk0 : k ≤ n0) (hk1 : k ≤ n1) (hk : k < 2 ^ 31) (hel : ∀ i : Nat, i < k → ∀ y : Nat, f i = some y → va_Any "java/lang/Object" s H y)
    (hframes : 1 ≤ R.frames) (hlocals : (rest.map fun v => v.category).sum + (nativeFrameWords "java/lang/System" "arraycopy" 5 + 11) ≤ R.locals) (hdg : decode cc pc = .ok (.invokestatic index, 3))
    (kk : ∀ (H1 : Heap) (locs1 : List Loc), va_P (gD G) vwCl (ws.set q1 (a, .inl (G.2.2.1 4, n1, .inr (.inr (.inr (.inr (va_cpy f g 0 0 k))))))) H1 → va_D A (ws.set q1 (a, .inl (G.2.2.1 4, n1, .inr (.inr (.inr (.inr (va_cpy f g 0 0 k))))))) → va_S A s.heap H1 locs1 → W p l e R s m args below meth c H1 locs1 cells slots Q (F0 m (pc + 3) ls rest)) : W p l e R s m args below meth c H locs cells slots Q (F0 m pc ls (.int (nI k) :: .int (nI 0) :: .ref a :: .int (nI 0) :: .ref a0 :: rest)) := by
  have hcl : (nI k).toNatClampNeg = k := nI_clamp hk
  have h0 : (nI 0).toNatClampNeg = 0 := nI_clamp (by omega)
  refine va_copyM (E0 := "java/lang/Object") (E1 := "java/lang/Object") hx hb hml hown hlink hnat hstat hini hK hP hD hS q0 q1 4 4 ha0 ha1 rfl rfl (nI_pos (by omega)) (nI_pos (by omega)) (nI_pos hk) (by rw [h0, hcl]; omega) (by rw [h0, hcl]; omega) (fun i hi y hy => ?_) hframes hlocals hdg (fun H1 locs1 hP1 hD1 hS1 => ?_)
  · rw [hcl] at hi
    rw [h0, Nat.zero_add] at hy
    exact hel i hi y hy
  · rw [h0, hcl] at hP1 hD1
    exact kk H1 locs1 hP1 hD1 hS1
end GJE
