/-! worlds with a tail: some cells by their places, and a rest whose length isn't written -/
theorem gtP {D : va_G} {cl : List vw_C} {X X' Z : va_W} {H : Heap} (h : va_P D cl (X ++ Z) H) (is : List Nat) (hs : is.map (fun i => X[i]?) = X'.map some) : va_P D cl (X' ++ Z) H := h.by _ (va_part is hs)
theorem gtD {A : Nat → Prop} {X X' Z : va_W} (h : va_D A (X ++ Z)) (is : List Nat) (hn : va_nd is = true) (hs : is.map (fun i => X[i]?) = X'.map some) : va_D A (X' ++ Z) := h.part is hn hs
/-- how a callee's world wc lies in ws, and what stands there behind the call -/
def gJn (G : gG) (A : Nat → Prop) (ws wc : va_W) (out : va_W → va_W) : Prop := (∀ H, va_P (gD G) vwCl ws H → va_P (gD G) vwCl wc H) ∧ (va_D A ws → va_D A wc) ∧ ∀ (H H1 : Heap) (w1 : va_W), va_P (gD G) vwCl ws H → va_D A ws → (∀ q : Nat, q < H.size → ¬ va_A wc H.size q → H1[q]? = H[q]?) → (∀ q, va_A wc H.size q → A q) → va_P (gD G) vwCl w1 H1 → va_D (va_A wc H.size) w1 → va_P (gD G) vwCl (out w1) H1 ∧ va_D A (out w1)
theorem gJn0 {G : gG} {A : Nat → Prop} {ws wc wr : va_W} (isC isR : List Nat) (hC : isC.map (fun i => ws[i]?) = wc.map some) (hR : isR.map (fun i => ws[i]?) = wr.map some) (hnC : va_nd isC = true) (hnR : va_nd isR = true) (hdis : ∀ i ∈ isR, i ∉ isC) : gJn G A ws wc (fun w => wr ++ w) :=
  ⟨fun _ h => h.sub isC (g_fm hC), fun h => h.sub isC hnC hC, fun _ _ _ hP hD hk hF hP1 hD1 => va_join hP hD isC isR hC hR hnR hdis hk hF hP1 hD1⟩
/-- the callee has no part of the tail -/
theorem gJnQ {G : gG} {A : Nat → Prop} {X cx wr Z : va_W} (isC isR : List Nat) (hC : isC.map (fun i => X[i]?) = cx.map some) (hR : isR.map (fun i => X[i]?) = wr.map some) (hnC : va_nd isC = true) (hnR : va_nd isR = true) (hdis : ∀ i ∈ isR, i ∉ isC) : gJn G A (X ++ Z) cx (fun w => (wr ++ w) ++ Z) := by
  have sub : ∀ (k : Nat) (q : Nat × va_E), (X[k]? = some q) → (X ++ Z)[k]? = some q := fun k q h => by rw [List.getElem?_append_left (List.getElem?_eq_some_iff.mp h).1]; exact h
  have hP0 : ∀ H, va_P (gD G) vwCl (X ++ Z) H → va_P (gD G) vwCl X H := fun H h k q hk => h k q (sub k q hk)
  have hD0 : va_D A (X ++ Z) → va_D A X := fun h => ⟨fun i j p q hp hq e => h.1 i j p q (sub i p hp) (sub j q hq) e, fun k q hk => h.2 k q (sub k q hk)⟩
  exact ⟨fun H h => (hP0 H h).sub isC (g_fm hC), fun h => (hD0 h).sub isC hnC hC, fun _ _ _ hP hD hk hF hP1 hD1 => va_joinQ hP hD isC isR hC hR hnR hdis hk hF hP1 hD1⟩
/-- the callee has the tail too, and leaves another -/
theorem gJnP {G : gG} {A : Nat → Prop} {X cx wr Z : va_W} (isC isR : List Nat) (hC : isC.map (fun i => X[i]?) = cx.map some) (hR : isR.map (fun i => X[i]?) = wr.map some) (hnC : va_nd isC = true) (hnR : va_nd isR = true) (hdis : ∀ i ∈ isR, i ∉ isC) : gJn G A (X ++ Z) (cx ++ Z) (fun w => wr ++ w) :=
  ⟨fun _ h => gtP h isC hC, fun h => gtD h isC hnC hC, fun _ _ w1 hP hD hk hF hP1 hD1 => by
    have h := va_joinP (rx := w1) (pl1 := []) hP hD isC isR hC hR hnR hdis hk hF (by rw [List.append_nil]; exact hP1) (by rw [List.append_nil]; exact hD1)
    rw [List.append_nil] at h
    exact h⟩
section GCJ
variable {p : Program} {l : Launch} {e : Env} {R : Room} {s : State} {m : MethodId} {args : Array Value} {below : List Frame} {meth : Method} {c : Code} {H : Heap} {locs : List Loc} {cells slots : Nat} {Q : State → Prop}
variable {S : Type} {G : gG} {A : Nat → Prop} {ws wc wr : va_W} {post : S → Prop} {rv : S → Option Value} {w1 : S → va_W} {pc : Nat} {ls : Array Slot} {st0 rest : List Value} {out : va_W → va_W}
theorem gJ_free (hJ : gJn G A ws wc out) (hD : va_D A ws) (hS : va_S A s.heap H locs) (hA : ∀ q, s.heap.size ≤ q → A q) : ∀ q, va_A wc H.size q → A q := by
  rintro q (⟨k, e, hk⟩ | hq)
  · exact (hJ.2.1 hD).2 k _ hk
  · exact hA q (Nat.le_trans hS.1 hq)
theorem gCallJ {a : Array Value} {mc ms : Nat} (hr : va_Run p l e R s m args below meth c H locs cells slots mc ms (F0 m pc ls st0) rest (gQc G (va_A wc H.size) post rv w1 a) (va_A wc H.size)) (hJ : gJn G A ws wc out) (hP : va_P (gD G) vwCl ws H) (hD : va_D A ws) (hS : va_S A s.heap H locs) (hA : ∀ q, s.heap.size ≤ q → A q)
    (kk : ∀ (u : S) (H1 : Heap) (locs1 : List Loc), post u → va_P (gD G) vwCl (out (w1 u)) H1 → va_D A (out (w1 u)) → va_S A s.heap H1 locs1 → W p l e R s m args below meth c H1 locs1 (cells + mc) (slots + ms) Q (F0 m (pc + 3) ls ((rv u).toList ++ rest))) : W p l e R s m args below meth c H locs cells slots Q (F0 m pc ls st0) := by
  have hf := gJ_free hJ hD hS hA
  intro T hT X
  obtain ⟨v, st₀, t, T', L, h0, X', hL, e1, e2, ⟨⟨u, hv, hpu, hP1, hD1⟩, hF⟩, st⟩ := hr T hT X
  cases hv
  obtain ⟨k1, k2⟩ := g_keep h0 e1 hS hf hL hF
  have hP1' : va_P (gD G) vwCl (w1 u) T'.heap := by rw [e1]; exact hP1
  obtain ⟨hP2, hD2⟩ := hJ.2.2 _ _ _ hP hD k2 hf hP1' hD1
  obtain ⟨t2, a1, b1⟩ := kk u T'.heap (locs ++ L) hpu hP2 hD2 k1 T' rfl X'
  exact ⟨t2, st t2 a1, b1⟩
theorem gCall5J {a : Array Value} {mc ms : Nat} (hr : va_Run5 p l e R s m args below meth c H locs cells slots mc ms (F0 m pc ls st0) rest (gQc G (va_A wc H.size) post rv w1 a) (va_A wc H.size)) (hJ : gJn G A ws wc out) (hP : va_P (gD G) vwCl ws H) (hD : va_D A ws) (hS : va_S A s.heap H locs) (hA : ∀ q, s.heap.size ≤ q → A q)
    (kk : ∀ (u : S) (H1 : Heap) (locs1 : List Loc), post u → va_P (gD G) vwCl (out (w1 u)) H1 → va_D A (out (w1 u)) → va_S A s.heap H1 locs1 → W p l e R s m args below meth c H1 locs1 (cells + mc) (slots + ms) Q (F0 m (pc + 5) ls ((rv u).toList ++ rest))) : W p l e R s m args below meth c H locs cells slots Q (F0 m pc ls st0) := by
  have hf := gJ_free hJ hD hS hA
  intro T hT X
  obtain ⟨v, st₀, t, T', L, h0, X', hL, e1, e2, ⟨⟨u, hv, hpu, hP1, hD1⟩, hF⟩, st⟩ := hr T hT X
  cases hv
  obtain ⟨k1, k2⟩ := g_keep h0 e1 hS hf hL hF
  have hP1' : va_P (gD G) vwCl (w1 u) T'.heap := by rw [e1]; exact hP1
  obtain ⟨hP2, hD2⟩ := hJ.2.2 _ _ _ hP hD k2 hf hP1' hD1
  obtain ⟨t2, a1, b1⟩ := kk u T'.heap (locs ++ L) hpu hP2 hD2 k1 T' rfl X'
  exact ⟨t2, st t2 a1, b1⟩
theorem gJ_pre {av : List Value} {U : State} (hJ : gJn G A ws wc out) (hE : gE G A s s.heap) (hK : va_K (gD G) vwCl (gT G) s) (hP : va_P (gD G) vwCl ws H) (hD : va_D A ws) (hS : va_S A s.heap H locs) (hA : ∀ q, s.heap.size ≤ q → A q) (hU : U.heap = H) (hW : s.WarmedH U.vm) : gPc G av wc H.size av.toArray U := by
  refine ⟨rfl, by rw [hU], by rw [hU]; exact hJ.1 _ hP, va_K.moved hW.alike hK, (hJ.2.1 hD).weaken (fun _ _ _ _ => trivial), ?_⟩
  exact hE.go hW (fun a h1 h2 => by rw [hU]; exact hS.2.1 a h1 h2) (gJ_free hJ hD hS hA)
variable {y : MethodName} {bytes cc : ByteArray} {maxL nL n index : Nat} {ret : Option FieldType} {wds Ts : List Cond} {rm : Room} {own host C : String} {b : Nat} {As : List Value} {lv : List (Nat × Value)} {T : u_T} {N ci q0 : Nat} {fs : List Value}
theorem gCVJ (hE : gE G A s s.heap) (hM : gMet l G y wds rm (.ref b :: As) wc post rv w1) (cw : CallW R s args own C index y bytes maxL ret wds rm rm.cells rm.slots n) (F : CallFix p m c cc nL s args Ts own) (hK : va_K (gD G) vwCl (gT G) s) (hP : va_P (gD G) vwCl ws H) (hD : va_D A ws) (hS : va_S A s.heap H locs) (hA : ∀ q, s.heap.size ≤ q → A q) (hJ : gJn G A ws wc out) (hci : vwCl[ci]? = some (C, T, N)) (hrec : wc[q0]? = some (b, .inr (ci, fs))) (hlen : As.length = n) (hl : lv_has ls nL lv) (hst : st0 = As.reverse ++ .ref b :: rest) (hroom : (rest.map fun v => v.category).sum ≤ 8) (hdg : decode cc pc = .ok (.invokevirtual index, 3)) (hf : cells + rm.cells ≤ R.cells ∧ slots + rm.slots ≤ R.slots)
    (kk : ∀ (u : S) (H1 : Heap) (locs1 : List Loc), post u → va_P (gD G) vwCl (out (w1 u)) H1 → va_D A (out (w1 u)) → va_S A s.heap H1 locs1 → W p l e R s m args below meth c H1 locs1 (cells + rm.cells) (slots + rm.slots) Q (F0 m (pc + 3) ls ((rv u).toList ++ rest))) : W p l e R s m args below meth c H locs cells slots Q (F0 m pc ls st0) :=
  gCallJ (va_runV F (hM H.size) cw ⟨gPc.blind, va_recv hK (hJ.1 _ hP) hci hrec, fun U hU hW => gJ_pre hJ hE hK hP hD hS hA hU hW⟩ rfl hlen hl.1 hst (lv_room hroom) hdg hf) hJ hP hD hS hA kk
theorem gCSJ (hE : gE G A s s.heap) (hM : gMet l G y wds rm As wc post rv w1) (cw : CallB R s args own index y bytes maxL ret wds rm rm.cells rm.slots n ∧ (Cond.static y).before args s = true) (F : CallFix p m c cc nL s args Ts own) (hK : va_K (gD G) vwCl (gT G) s) (hP : va_P (gD G) vwCl ws H) (hD : va_D A ws) (hS : va_S A s.heap H locs) (hA : ∀ q, s.heap.size ≤ q → A q) (hJ : gJn G A ws wc out) (hlen : As.length = n) (hl : lv_has ls nL lv) (hst : st0 = As.reverse ++ rest) (hroom : (rest.map fun v => v.category).sum ≤ 8) (hdg : decode cc pc = .ok (.invokestatic index, 3)) (hf : cells + rm.cells ≤ R.cells ∧ slots + rm.slots ≤ R.slots)
    (kk : ∀ (u : S) (H1 : Heap) (locs1 : List Loc), post u → va_P (gD G) vwCl (out (w1 u)) H1 → va_D A (out (w1 u)) → va_S A s.heap H1 locs1 → W p l e R s m args below meth c H1 locs1 (cells + rm.cells) (slots + rm.slots) Q (F0 m (pc + 3) ls ((rv u).toList ++ rest))) : W p l e R s m args below meth c H locs cells slots Q (F0 m pc ls st0) :=
  gCallJ (va_runS F (hM H.size) cw ⟨gPc.blind, fun U hU hW => gJ_pre hJ hE hK hP hD hS hA hU hW⟩ rfl hlen hl.1 hst (lv_room hroom) hdg hf) hJ hP hD hS hA kk
theorem gCIJ (hE : gE G A s s.heap) (hM : gMet l G y wds rm (.ref b :: As) wc post rv w1) (cw : CallB R s args own index y bytes maxL none wds rm rm.cells rm.slots n ∧ y.name = "<init>" ∧ (Cond.instanceMethod y).before args s = true) (F : CallFix p m c cc nL s args Ts own) (hK : va_K (gD G) vwCl (gT G) s) (hP : va_P (gD G) vwCl ws H) (hD : va_D A ws) (hS : va_S A s.heap H locs) (hA : ∀ q, s.heap.size ≤ q → A q) (hJ : gJn G A ws wc out) (hlen : As.length = n) (hl : lv_has ls nL lv) (hst : st0 = As.reverse ++ .ref b :: rest) (hroom : (rest.map fun v => v.category).sum ≤ 8) (hdg : decode cc pc = .ok (.invokespecial index, 3)) (hf : cells + rm.cells ≤ R.cells ∧ slots + rm.slots ≤ R.slots)
    (kk : ∀ (u : S) (H1 : Heap) (locs1 : List Loc), post u → va_P (gD G) vwCl (out (w1 u)) H1 → va_D A (out (w1 u)) → va_S A s.heap H1 locs1 → W p l e R s m args below meth c H1 locs1 (cells + rm.cells) (slots + rm.slots) Q (F0 m (pc + 3) ls ((rv u).toList ++ rest))) : W p l e R s m args below meth c H locs cells slots Q (F0 m pc ls st0) :=
  gCallJ (va_runI F (hM H.size) cw ⟨gPc.blind, fun U hU hW => gJ_pre hJ hE hK hP hD hS hA hU hW⟩ rfl hlen hl.1 hst (lv_room hroom) hdg hf) hJ hP hD hS hA kk
/-- through an interface -/
theorem gCFJ {x : MethodName} {cC : ClassId} {count : Nat} (hE : gE G A s s.heap) (hM : gMet l G y wds rm (.ref b :: As) wc post rv w1) (cw : va_CI R s args own C index x y bytes maxL ret wds rm rm.cells rm.slots n) (hat : ClassAt s C cC) (F : CallFix p m c cc nL s args Ts own) (hK : va_K (gD G) vwCl (gT G) s) (hP : va_P (gD G) vwCl ws H) (hD : va_D A ws) (hS : va_S A s.heap H locs) (hA : ∀ q, s.heap.size ≤ q → A q) (hJ : gJn G A ws wc out) (hci : vwCl[ci]? = some (C, T, N)) (hrec : wc[q0]? = some (b, .inr (ci, fs))) (hlen : As.length = n) (hl : lv_has ls nL lv) (hst : st0 = As.reverse ++ .ref b :: rest) (hroom : (rest.map fun v => v.category).sum ≤ 8) (hdg : decode cc pc = .ok (.invokeinterface index count, 5)) (hf : cells + rm.cells ≤ R.cells ∧ slots + rm.slots ≤ R.slots)
    (kk : ∀ (u : S) (H1 : Heap) (locs1 : List Loc), post u → va_P (gD G) vwCl (out (w1 u)) H1 → va_D A (out (w1 u)) → va_S A s.heap H1 locs1 → W p l e R s m args below meth c H1 locs1 (cells + rm.cells) (slots + rm.slots) Q (F0 m (pc + 5) ls ((rv u).toList ++ rest))) : W p l e R s m args below meth c H locs cells slots Q (F0 m pc ls st0) :=
  gCall5J (va_runF hat F (hM H.size) cw ⟨gPc.blind, va_recv hK (hJ.1 _ hP) hci hrec, fun U hU hW => gJ_pre hJ hE hK hP hD hS hA hU hW⟩ rfl hlen hl.1 hst (lv_room hroom) hdg hf) hJ hP hD hS hA kk
variable {mc ms : Nat}
theorem g_endT {t : State} {v : Option Value} (hS : va_S A s.heap H locs) (u : S) (hu : post u) (hrv : rv u = v) (hP : va_P (gD G) vwCl (w1 u) H) (hD : va_D A (w1 u)) (ht : t.heap = H) : gQc G A post rv w1 args s (.returned v) t := ⟨⟨u, by rw [hrv], hu, by rw [ht]; exact hP, hD⟩, hS.F ht⟩
theorem gIretT {v : Int32} (hQ : Q = MQ below (gQc G A post rv w1) args s mc ms A) (hx : p.tables.exec = Jvm.exec) (hb : c.code = cc) (hr : meth.sig.returnType = some .int) (hlocks : meth.locks = false) (hS : va_S A s.heap H locs) (u : S) (hu : post u) (hrv : rv u = some (.int v)) (hP : va_P (gD G) vwCl (w1 u) H) (hD : va_D A (w1 u)) (hc : cells ≤ mc) (hsl : slots ≤ ms) (hdg : decode cc pc = .ok (.ireturn, 1)) : W p l e R s m args below meth c H locs cells slots Q (F0 m pc ls [.int v]) := by
  subst hQ
  exact W.widen hc hsl (W.iret hx hb hr (fun t ht _ => g_endT hS u hu hrv hP hD ht) hS.2.2 hdg (hlocks := hlocks))
theorem gZretT {v : Int32} (hQ : Q = MQ below (gQc G A post rv w1) args s mc ms A) (hx : p.tables.exec = Jvm.exec) (hb : c.code = cc) (hr : meth.sig.returnType = some .boolean) (hlocks : meth.locks = false) (hv : v = 0 ∨ v = 1) (hS : va_S A s.heap H locs) (u : S) (hu : post u) (hrv : rv u = some (.int v)) (hP : va_P (gD G) vwCl (w1 u) H) (hD : va_D A (w1 u)) (hc : cells ≤ mc) (hsl : slots ≤ ms) (hdg : decode cc pc = .ok (.ireturn, 1)) : W p l e R s m args below meth c H locs cells slots Q (F0 m pc ls [.int v]) := by
  subst hQ
  exact W.widen hc hsl (W.zret hx hb hr (g_narZ hv) (fun t ht _ => g_endT hS u hu hrv hP hD ht) hS.2.2 hdg (hlocks := hlocks))
theorem gVretT (hQ : Q = MQ below (gQc G A post rv w1) args s mc ms A) (hx : p.tables.exec = Jvm.exec) (hb : c.code = cc) (hr : meth.sig.returnType = none) (hlocks : meth.locks = false) (hS : va_S A s.heap H locs) (u : S) (hu : post u) (hrv : rv u = none) (hP : va_P (gD G) vwCl (w1 u) H) (hD : va_D A (w1 u)) (hc : cells ≤ mc) (hsl : slots ≤ ms) (hdg : decode cc pc = .ok (.return_, 1)) : W p l e R s m args below meth c H locs cells slots Q (F0 m pc ls []) := by
  subst hQ
  exact W.widen hc hsl (W.vret hx hb hr (fun t ht _ => g_endT hS u hu hrv hP hD ht) hS.2.2 hdg (hlocks := hlocks))
theorem gAretT {rt : FieldType} {a : Nat} (hQ : Q = MQ below (gQc G A post rv w1) args s mc ms A) (hx : p.tables.exec = Jvm.exec) (hb : c.code = cc) (hr : meth.sig.returnType = some rt) (hrt : (∃ n, rt = .object n) ∨ ∃ t, rt = .array t) (hlocks : meth.locks = false) (hS : va_S A s.heap H locs) (u : S) (hu : post u) (hrv : rv u = some (.ref a)) (hP : va_P (gD G) vwCl (w1 u) H) (hD : va_D A (w1 u)) (hc : cells ≤ mc) (hsl : slots ≤ ms) (hdg : decode cc pc = .ok (.areturn, 1)) : W p l e R s m args below meth c H locs cells slots Q (F0 m pc ls [.ref a]) := by
  subst hQ
  exact W.widen hc hsl (W.aret hx hb hr hrt (Or.inr ⟨a, rfl⟩) (fun t ht _ => g_endT hS u hu hrv hP hD ht) hS.2.2 hdg (hlocks := hlocks))
end GCJ
