/-! THE CLAIM OUT OF ONE WALK OF THE LAW'S BODY. Your part is whole_start (and what it stands on); all else here is the same for every law, but numbers. -/
def R_law : String := "DegreewallLaw"
def lw_P (b : Addr) (xs : List Int32) (args : Array Value) (s : State) : Prop := args = #[.ref b] ∧ s.IntsAt b xs ∧ xs.length ≤ 260 ∧ (Jvm.Cond.and given_1 narrow_1).before args s = true
def lw_Q (_ : Array Value) (s : State) (o : Outcome) (t : State) : Prop := o = .returned (some (.int 1)) ∧ Framed s o t [] room_1.cells room_1.slots
def lw_Z (below : List Frame) (a : Array Value) (s : State) : State → Prop := fun t => ∃ o, t.status = .running ∧ Ended t below o ∧ lw_Q a s o t
/-- the law's own end, with 1 on the stack, nothing written that was there before, its room as the claim has it -/
theorem lw_ret {p : Program} {l : Launch} {e : Env} {s : State} {m : MethodId} {below : List Frame} {meth : Method} {c : Code} {b : Nat} (hx : p.tables.exec = Jvm.exec) (hb : c.code = code) (hr : meth.sig.returnType = ret) (hlocks : meth.locks = false) {pc : Nat} {H : Heap} {ls : Array Slot} (hdg : decode code pc = .ok (.ireturn, 1)) : W p l e room_1 s m #[Value.ref b] below meth c H [] room_1.cells room_1.slots (lw_Z below #[Value.ref b] s) (F0 m pc ls [.int 1]) := by
  intro T hT X
  obtain ⟨fs, hret, hrun, hended, hW, hframe⟩ := X.leave (v := some (.int 1)) (hlocks := hlocks) (fun h => by rw [hr] at h; cases h)
  have hmeth' : T.vm.method? m = some meth := X.method'
  refine ⟨T.setFrames fs, ?_, .returned (some (.int 1)), hrun, hended, rfl, ⟨_, rfl⟩, hW, hframe⟩
  jvm_step X.here [X.here.top, hx, hb, hdg, hmeth', hr, ret, narrow_b1]
  (try refine ⟨rfl, ?_⟩); (try refine ⟨rfl, ?_⟩)
  first | (intro acts; rw [hret _ acts rfl rfl rfl]) | rw [hret _ _ rfl rfl rfl]
  exact Steps.refl _
/-- what holds at the law's entry: the machine, the code, the tables' words (any of lw_tbl by 'hts w (by decide +kernel)'), the script of L ints xs at the cell b, what the Statement gives of the start (any of its parts by flat_of_before) -/
def lw_At (p : Program) (s : State) (m : MethodId) (meth : Method) (c : Code) (b L : Nat) (xs : Nat → Int32) : Prop :=
  p.tables.exec = Jvm.exec ∧ c.code = code ∧ meth.sig.returnType = ret ∧ c.maxLocals = 16 ∧ s.vm.findClass R_law = some m.cls ∧ (∀ w ∈ lw_tbl, w.before #[Value.ref b] s = true) ∧ va_X b L xs s s.heap ∧ b < s.heap.size ∧ meth.locks = false ∧ (Jvm.Cond.and given_1 narrow_1).before #[Value.ref b] s = true
-- ===== the base: one form of contract, its opening, its calls, its ends =====
abbrev gG : Type := (Nat → ClassId) × (Nat → Nat → Nat) × (Nat → ClassId) × (Nat → Nat)
abbrev gD (G : gG) : va_G := (G.1, G.2.1)
abbrev gT (G : gG) : List (ClassId × FieldType) := [(G.2.2.1 0, .int), (G.2.2.1 1, .array .int), (G.2.2.1 2, .long), (G.2.2.1 3, .array .long), (G.2.2.1 4, .object "java/lang/Object")]
/-- the links of nest mates -/
def gNm : List (String × Nat × MethodName × String) := [(RX6, 18, yX5_init, RX6), (RX6, 25, yX2_init, RX6), (RX6, 32, yX4_init, RX6), (RX6, 9, yX0_init, RX6), (RX0, 11, yX1_init, RX6), (RX0, 47, yX6_contains, RX6), (RX1, 19, yX6_contains, RX6), (RX2, 23, yX1_init, RX6), (RX2, 41, yX6_contains, RX6), (RX3, 28, yX6_contains, RX6), (RX4, 102, yX6_contains, RX6), (RX4, 17, yX1_init, RX6), (RX4, 33, yX3_init, RX6), (RX5, 22, yX6_contains, RX6)]
/-- a class of arrays over an array class stays known -/
theorem g_over {ty : FieldType} {u U : State} (hv : u.vm = U.vm) (h : (Cond.arrayOver ty).before #[] u = true) : (Cond.arrayOver ty).before #[] U = true := by
  unfold Cond.before Cond.holds at h ⊢
  simp only [Cond.value] at h ⊢
  rw [← hv]
  exact h
theorem gAOA {t : FieldType} {s U : State} (hW : s.WarmedH U.vm) (h : va_AOA t s) : va_AOA t U := g_over (rfl : (s.setVm U.vm).vm = U.vm) (by rw [Cond.arrayOver_setVmC hW.alike]; exact h)
theorem gAO {t : String} {s U : State} (hW : s.WarmedH U.vm) (h : va_AO t s) : va_AO t U := g_over (rfl : (s.setVm U.vm).vm = U.vm) (by rw [Cond.arrayOver_setVmC hW.alike]; exact h)
/-- the calls through an interface -/
def gFw : List (String × MethodName × MethodName) := [(RJx4a65c, ⟨RJxbd725, "size", "()I"⟩, yJx4a65c_size_8abf5), (RJx4a65c, ⟨RJxbd725, "get", "(I)Ljava/lang/Object;"⟩, yJx4a65c_get_915e3), (RJx4a65c, ⟨RJxbd725, "add", "(Ljava/lang/Object;)Z"⟩, yJx4a65c_add_9ea2d), (RJx4a65c, ⟨RJxbd725, "iterator", "()Ljava/util/Iterator;"⟩, yJx4a65c_iterator_32c93), (RJx35411, ⟨RJx4d0d8, "hasNext", "()Z"⟩, yJx35411_hasNext_aae02), (RJx35411, ⟨RJx4d0d8, "next", "()Ljava/lang/Object;"⟩, yJx35411_next_0502b)]
def gCs : List (String × String) := [("[I", "java/lang/Object"), (RJ6, "java/lang/Object")]
/-- ArrayList's first array, the cache of Integers, the class object of Object[]: what the JDK holds -/
def gJ (G : gG) (A : Nat → Prop) (U : State) (H : Heap) : Prop := ((va_AOA .int U ∧ va_AOA .long U ∧ va_AO "java/lang/Object" U) ∧ (va_Mi "[Ljava/lang/Object;" (G.2.2.2 2) U ∧ va_Dc U)) ∧ ((∀ q ∈ gFw, va_Fw q.1 q.2.1 q.2.2 U) ∧ (∀ q ∈ gCs, va_Nw (.castable q.1 q.2) U)) ∧ (va_Z RJx4a65c "DEFAULTCAPACITY_EMPTY_ELEMENTDATA" "[Ljava/lang/Object;" (.ref (G.2.2.2 0)) A U H ∧ va_Z RJxabbfe "high" "I" (.int 127) A U H ∧ va_Z RJxabbfe "cache" "[Ljava/lang/Integer;" (.ref (G.2.2.2 1)) A U H) ∧ (va_T (.object "java/lang/Object") (G.2.2.2 0) 0 (fun _ => .null) A U H ∧ va_T (.object RJ6) (G.2.2.2 1) 256 (fun k => .ref (G.2.2.2 (k + 3))) A U H ∧ vb_C (fun k => G.2.2.2 (k + 3)) A U H)
theorem gFw_ok : ∀ q ∈ gFw, q.2.1.cls ≠ "java/lang/invoke/MethodHandle" ∧ q.2.1.cls ≠ "java/lang/invoke/VarHandle" := by decide
theorem gJ.go {G : gG} {A B : Nat → Prop} {s U : State} {H H1 : Heap} (h : gJ G A s H) (hW : s.WarmedH U.vm) (hq : ∀ a, a < H.size → ¬ A a → H1[a]? = H[a]?) (hB : ∀ q, B q → A q) : gJ G B U H1 := by
  obtain ⟨⟨⟨a1, a2, a3⟩, b1, b2⟩, ⟨c1, c2⟩, ⟨d1, d2, d3⟩, e1, e2, e3⟩ := h
  exact ⟨⟨⟨gAOA hW a1, gAOA hW a2, gAO hW a3⟩, b1.moved hW.alike, b2.moved hW.alike⟩, ⟨fun q hq => (c1 q hq).moved (gFw_ok q hq) hW.alike, fun q hq => va_Nw.warmC hW (c2 q hq)⟩, ⟨((d1.kept hq).narrow hB).moved hW.alike, ((d2.kept hq).narrow hB).moved hW.alike, ((d3.kept hq).narrow hB).moved hW.alike⟩, ((e1.kept hq).narrow hB).moved hW.alike, ((e2.kept hq).narrow hB).moved hW.alike, ((e3.kept hq).narrow hB).moved hW.alike⟩
theorem gJ.calling {G : gG} {A : Nat → Prop} {U : State} {g : JFrame} {mk : MethodId} {a : Array Value} {H : Heap} (h : gJ G A U H) : gJ G A (U.calling g mk a) H := by
  obtain ⟨⟨⟨a1, a2, a3⟩, b1, b2⟩, ⟨c1, c2⟩, ⟨d1, d2, d3⟩, e1, e2, e3⟩ := h
  have hv : U.vm.Alike (U.calling g mk a).vm := Vm.Alike.refl U.vm
  exact ⟨⟨⟨g_over rfl a1, g_over rfl a2, g_over rfl a3⟩, b1.moved hv, b2.moved hv⟩, ⟨fun q hq => (c1 q hq).moved (gFw_ok q hq) hv, fun q hq => va_Nw.same rfl (show U.vm = (U.calling g mk a).vm from rfl) (c2 q hq)⟩, ⟨d1.moved hv, d2.moved hv, d3.moved hv⟩, e1.moved hv, e2.moved hv, e3.moved hv⟩
/-- the law's own script: ints that nobody writes -/
def gScr (G : gG) (A : Nat → Prop) (U : State) (H : Heap) : Prop := ∃ (L : Nat) (xs : Nat → Int32), L < 2 ^ 31 ∧ va_T .int (G.2.2.2 259) L (fun j => .int (xs j)) A U H
theorem gScr.go {G : gG} {A B : Nat → Prop} {s U : State} {H H1 : Heap} (h : gScr G A s H) (hW : s.WarmedH U.vm) (hq : ∀ a, a < H.size → ¬ A a → H1[a]? = H[a]?) (hB : ∀ q, B q → A q) : gScr G B U H1 := by
  obtain ⟨L, xs, hL, h⟩ := h
  exact ⟨L, xs, hL, ((h.kept hq).narrow hB).moved hW.alike⟩
theorem gScr.calling {G : gG} {A : Nat → Prop} {U : State} {g : JFrame} {mk : MethodId} {a : Array Value} {H : Heap} (h : gScr G A U H) : gScr G A (U.calling g mk a) H := by
  obtain ⟨L, xs, hL, h⟩ := h
  exact ⟨L, xs, hL, h.moved (Vm.Alike.refl U.vm)⟩
/-- the environment: what stays so, whatever is called -/
def gE (G : gG) (A : Nat → Prop) (U : State) (H : Heap) : Prop := (((∀ q ∈ gNm, va_Nw (.methodLinkNest q.1 q.2.1 q.2.2.1 q.2.2.2) U) ∧ gScr G A U H) ∧ va_Nw (.fieldLinkNest RJx35411 28 RJx4a65c "size" "I" RJx4a65c) U) ∧ gJ G A U H
theorem gE.go {G : gG} {A B : Nat → Prop} {s U : State} (h : gE G A s s.heap) (hW : s.WarmedH U.vm) (hq : ∀ a, a < s.heap.size → ¬ A a → U.heap[a]? = s.heap[a]?) (hB : ∀ q, B q → A q) : gE G B U U.heap := ⟨⟨⟨fun q hq => va_Nw.warmM hW (h.1.1.1 q hq), h.1.1.2.go hW hq hB⟩, va_Nw.warmF hW h.1.2⟩, h.2.go hW hq hB⟩
theorem gE.calling {G : gG} {A : Nat → Prop} {U : State} {g : JFrame} {mk : MethodId} {a : Array Value} (h : gE G A U U.heap) : gE G A (U.calling g mk a) (U.calling g mk a).heap := ⟨⟨⟨fun q hq => va_Nw.same rfl (show U.vm = (U.calling g mk a).vm from rfl) (h.1.1.1 q hq), h.1.1.2.calling⟩, va_Nw.same rfl (show U.vm = (U.calling g mk a).vm from rfl) h.1.2⟩, h.2.calling⟩
theorem gE.nest {G : gG} {A : Nat → Prop} {U : State} {H : Heap} (h : gE G A U H) (i : Nat) {q : String × Nat × MethodName × String} (hq : gNm[i]? = some q) : va_Nw (.methodLinkNest q.1 q.2.1 q.2.2.1 q.2.2.2) U := h.1.1.1 q (List.mem_of_getElem? hq)
def gPc (G : gG) (av : List Value) (ws : va_W) (sz : Nat) : Array Value → State → Prop := va_Pc av (fun U => U.heap.size = sz ∧ va_P (gD G) vwCl ws U.heap ∧ va_K (gD G) vwCl (gT G) U ∧ va_D (fun _ => True) ws ∧ gE G (va_A ws sz) U U.heap)
theorem gPc.blind {G : gG} {av : List Value} {ws : va_W} {sz : Nat} : FrameBlind (gPc G av ws sz) := fun a U g mk h => by
  obtain ⟨e, h1, h2, h3, h4, h5⟩ := h
  exact ⟨e, h1, h2, va_K.moved (u := U) (U := U.calling g mk a) (Vm.Alike.refl U.vm) h3, h4, h5.calling⟩
def gQc {S : Type} (G : gG) (A : Nat → Prop) (post : S → Prop) (rv : S → Option Value) (w1 : S → va_W) : Array Value → State → Outcome → State → Prop := fun _ st oc t => (∃ u : S, oc = .returned (rv u) ∧ post u ∧ va_P (gD G) vwCl (w1 u) t.heap ∧ va_D A (w1 u)) ∧ va_F A st t
/-- THE CONTRACT: from a world ws, the arguments av: it returns rv u and leaves w1 u, for some u with post u; what it makes stands in rm -/
def gMet {S : Type} (l : Launch) (G : gG) (y : MethodName) (wds : List Cond) (rm : Room) (av : List Value) (ws : va_W) (post : S → Prop) (rv : S → Option Value) (w1 : S → va_W) : Prop := ∀ sz : Nat, Met l y wds rm (gPc G av ws sz) (gQc G (va_A ws sz) post rv w1) rm.cells rm.slots (va_A ws sz)
theorem gOf {S : Type} {l : Launch} {G : gG} {y : MethodName} {wds wds' : List Cond} {rm : Room} {av : List Value} {ws : va_W} {post : S → Prop} {rv : S → Option Value} {w1 : S → va_W} {cc : ByteArray} {maxL : Nat} {ret : Option FieldType} (hy : plainName y.cls = true) (hw : wds = Cond.code y cc maxL ret :: wds') (hsl : (lg_sl av).length ≤ maxL)
    (body : ∀ (p : Program) (e : Env) (s : State) (m : MethodId) (args : Array Value) (below : List Frame) (meth : Method) (c : Code) (A : Nat → Prop) (ls : Array Slot) (H : Heap) (locs : List Loc) (Q : State → Prop), Q = MQ below (gQc G A post rv w1) args s rm.cells rm.slots A → p.tables.exec = Jvm.exec → c.code = cc → c.maxLocals = maxL → meth.sig.returnType = ret → s.vm.findClass y.cls = some m.cls → (∀ w ∈ wds, w.before args s = true) → meth.locks = false → meth.name = y.name → va_K (gD G) vwCl (gT G) s → va_P (gD G) vwCl ws H → va_D A ws → va_S A s.heap H locs → (∀ q, s.heap.size ≤ q → A q) → gE G A s s.heap → lv_has ls maxL (lv_args 0 av) →
      W p l e rm s m args below meth c H locs 0 0 Q (F0 m 0 ls [])) : gMet l G y wds rm av ws post rv w1 := by
  intro sz
  refine Met.ofW (cc := cc) (maxL := maxL) (ret := ret) hy hw ?_
  intro p e s m args below meth c s₁ B hml hv
  obtain ⟨rfl, hsz, hP, hK, hD0, hE⟩ := hv
  subst hsz
  have hl := lv_entry av hsl
  rw [lg_entry_eq]
  exact body p e s m _ below meth c _ _ _ _ _ rfl B.exec B.bytes hml B.returns (findClass_of_methodNamed B.named) (atoms_spec (ws := wds) B.pre) B.notSynchronized (name_of_methodNamed B.named B.method).1 hK hP hD0.self va_S.rf (fun q h => Or.inr h) hE hl
theorem g_fm {ws wc : va_W} {is : List Nat} (h : is.map (fun i => ws[i]?) = wc.map some) : is.filterMap (fun i => ws[i]?) = wc := by
  have h1 : is.filterMap (fun i => ws[i]?) = (is.map (fun i => ws[i]?)).filterMap id := by simp [List.filterMap_map]
  rw [h1, h]
  simp [List.filterMap_map]
section GC
variable {p : Program} {l : Launch} {e : Env} {R : Room} {s : State} {m : MethodId} {args : Array Value} {below : List Frame} {meth : Method} {c : Code} {H : Heap} {locs : List Loc} {cells slots : Nat} {Q : State → Prop}
variable {S : Type} {G : gG} {A : Nat → Prop} {ws wc wr : va_W} {post : S → Prop} {rv : S → Option Value} {w1 : S → va_W} {pc : Nat} {ls : Array Slot} {st0 rest : List Value}
theorem g_keep {A1 : Nat → Prop} {st₀ t T' : State} {L : List Loc} {H0 : Heap} (h0 : st₀.heap = H) (e1 : T'.heap = t.heap) (hS : va_S A H0 H locs) (hf : ∀ q, A1 q → A q) (hL : ∀ q ∈ L, A1 q.base) (hF : va_F A1 st₀ t) : va_S A H0 T'.heap (locs ++ L) ∧ ∀ q : Nat, q < H.size → ¬ A1 q → T'.heap[q]? = H[q]? := by
  obtain ⟨hz, hk⟩ := hF
  rw [h0] at hz hk
  exact ⟨⟨Nat.le_trans hS.1 (by rw [e1]; exact hz), fun q h1 h2 => by rw [e1, hk q (Nat.lt_of_lt_of_le h1 hS.1) (fun z => h2 (hf q z))]; exact hS.2.1 q h1 h2, fun q hq => by
      rcases List.mem_append.mp hq with h | h
      · exact hS.2.2 q h
      · exact hf _ (hL q h)⟩, fun q h1 h2 => by rw [e1]; exact hk q h1 h2⟩
theorem gCall {a : Array Value} {mc ms : Nat} (hr : va_Run p l e R s m args below meth c H locs cells slots mc ms (F0 m pc ls st0) rest (gQc G (va_A wc H.size) post rv w1 a) (va_A wc H.size)) (hP : va_P (gD G) vwCl ws H) (hD : va_D A ws) (hS : va_S A s.heap H locs) (hA : ∀ q, s.heap.size ≤ q → A q) (isC isR : List Nat) (hC : isC.map (fun i => ws[i]?) = wc.map some) (hR : isR.map (fun i => ws[i]?) = wr.map some) (hnR : va_nd isR = true) (hdis : ∀ i ∈ isR, i ∉ isC)
    (kk : ∀ (u : S) (H1 : Heap) (locs1 : List Loc), post u → va_P (gD G) vwCl (wr ++ w1 u) H1 → va_D A (wr ++ w1 u) → va_S A s.heap H1 locs1 → W p l e R s m args below meth c H1 locs1 (cells + mc) (slots + ms) Q (F0 m (pc + 3) ls ((rv u).toList ++ rest))) : W p l e R s m args below meth c H locs cells slots Q (F0 m pc ls st0) := by
  have hf := va_free hD hS hA isC hC
  intro T hT X
  obtain ⟨v, st₀, t, T', L, h0, X', hL, e1, e2, ⟨⟨u, hv, hpu, hP1, hD1⟩, hF⟩, st⟩ := hr T hT X
  cases hv
  obtain ⟨k1, k2⟩ := g_keep h0 e1 hS hf hL hF
  have hP1' : va_P (gD G) vwCl (w1 u) T'.heap := by rw [e1]; exact hP1
  obtain ⟨hP2, hD2⟩ := va_join hP hD isC isR hC hR hnR hdis k2 hf hP1' hD1
  obtain ⟨t2, a1, b1⟩ := kk u T'.heap (locs ++ L) hpu hP2 hD2 k1 T' rfl X'
  exact ⟨t2, st t2 a1, b1⟩
theorem gCall5 {a : Array Value} {mc ms : Nat} (hr : va_Run5 p l e R s m args below meth c H locs cells slots mc ms (F0 m pc ls st0) rest (gQc G (va_A wc H.size) post rv w1 a) (va_A wc H.size)) (hP : va_P (gD G) vwCl ws H) (hD : va_D A ws) (hS : va_S A s.heap H locs) (hA : ∀ q, s.heap.size ≤ q → A q) (isC isR : List Nat) (hC : isC.map (fun i => ws[i]?) = wc.map some) (hR : isR.map (fun i => ws[i]?) = wr.map some) (hnR : va_nd isR = true) (hdis : ∀ i ∈ isR, i ∉ isC)
    (kk : ∀ (u : S) (H1 : Heap) (locs1 : List Loc), post u → va_P (gD G) vwCl (wr ++ w1 u) H1 → va_D A (wr ++ w1 u) → va_S A s.heap H1 locs1 → W p l e R s m args below meth c H1 locs1 (cells + mc) (slots + ms) Q (F0 m (pc + 5) ls ((rv u).toList ++ rest))) : W p l e R s m args below meth c H locs cells slots Q (F0 m pc ls st0) := by
  have hf := va_free hD hS hA isC hC
  intro T hT X
  obtain ⟨v, st₀, t, T', L, h0, X', hL, e1, e2, ⟨⟨u, hv, hpu, hP1, hD1⟩, hF⟩, st⟩ := hr T hT X
  cases hv
  obtain ⟨k1, k2⟩ := g_keep h0 e1 hS hf hL hF
  have hP1' : va_P (gD G) vwCl (w1 u) T'.heap := by rw [e1]; exact hP1
  obtain ⟨hP2, hD2⟩ := va_join hP hD isC isR hC hR hnR hdis k2 hf hP1' hD1
  obtain ⟨t2, a1, b1⟩ := kk u T'.heap (locs ++ L) hpu hP2 hD2 k1 T' rfl X'
  exact ⟨t2, st t2 a1, b1⟩
/-- what the callee may take as given -/
theorem g_pre {av : List Value} {U : State} (hE : gE G A s s.heap) (hK : va_K (gD G) vwCl (gT G) s) (hP : va_P (gD G) vwCl ws H) (hD : va_D A ws) (hS : va_S A s.heap H locs) (hA : ∀ q, s.heap.size ≤ q → A q) (isC : List Nat) (hC : isC.map (fun i => ws[i]?) = wc.map some) (hnC : va_nd isC = true) (hU : U.heap = H) (hW : s.WarmedH U.vm) : gPc G av wc H.size av.toArray U := by
  have hfm := g_fm hC
  refine ⟨rfl, by rw [hU], by rw [hU]; exact hP.sub isC hfm, va_K.moved hW.alike hK, (hD.sub isC hnC hC).weaken (fun _ _ _ _ => trivial), ?_⟩
  exact hE.go hW (fun a h1 h2 => by rw [hU]; exact hS.2.1 a h1 h2) (va_free hD hS hA isC hC)
variable {y : MethodName} {bytes cc : ByteArray} {maxL nL n index : Nat} {ret : Option FieldType} {wds Ts : List Cond} {rm : Room} {own host C : String} {b : Nat} {As : List Value} {lv : List (Nat × Value)} {T : u_T} {N ci q0 : Nat} {fs : List Value}
/-- an instance method, its object in a known cell -/
theorem gCV (hE : gE G A s s.heap) (hM : gMet l G y wds rm (.ref b :: As) wc post rv w1) (cw : CallW R s args own C index y bytes maxL ret wds rm rm.cells rm.slots n) (F : CallFix p m c cc nL s args Ts own) (hK : va_K (gD G) vwCl (gT G) s) (hP : va_P (gD G) vwCl ws H) (hD : va_D A ws) (hS : va_S A s.heap H locs) (hA : ∀ q, s.heap.size ≤ q → A q) (isC isR : List Nat) (hC : isC.map (fun i => ws[i]?) = wc.map some) (hR : isR.map (fun i => ws[i]?) = wr.map some) (hnC : va_nd isC = true) (hnR : va_nd isR = true) (hdis : ∀ i ∈ isR, i ∉ isC) (hci : vwCl[ci]? = some (C, T, N)) (hrec : wc[q0]? = some (b, .inr (ci, fs))) (hlen : As.length = n) (hl : lv_has ls nL lv) (hst : st0 = As.reverse ++ .ref b :: rest) (hroom : (rest.map fun v => v.category).sum ≤ 8) (hdg : decode cc pc = .ok (.invokevirtual index, 3)) (hf : cells + rm.cells ≤ R.cells ∧ slots + rm.slots ≤ R.slots)
    (kk : ∀ (u : S) (H1 : Heap) (locs1 : List Loc), post u → va_P (gD G) vwCl (wr ++ w1 u) H1 → va_D A (wr ++ w1 u) → va_S A s.heap H1 locs1 → W p l e R s m args below meth c H1 locs1 (cells + rm.cells) (slots + rm.slots) Q (F0 m (pc + 3) ls ((rv u).toList ++ rest))) : W p l e R s m args below meth c H locs cells slots Q (F0 m pc ls st0) :=
  gCall (va_runV F (hM H.size) cw ⟨gPc.blind, va_recv hK (hP.sub isC (g_fm hC)) hci hrec, fun U hU hW => g_pre hE hK hP hD hS hA isC hC hnC hU hW⟩ rfl hlen hl.1 hst (lv_room hroom) hdg hf) hP hD hS hA isC isR hC hR hnR hdis kk
/-- a static method -/
theorem gCS (hE : gE G A s s.heap) (hM : gMet l G y wds rm As wc post rv w1) (cw : CallB R s args own index y bytes maxL ret wds rm rm.cells rm.slots n ∧ (Cond.static y).before args s = true) (F : CallFix p m c cc nL s args Ts own) (hK : va_K (gD G) vwCl (gT G) s) (hP : va_P (gD G) vwCl ws H) (hD : va_D A ws) (hS : va_S A s.heap H locs) (hA : ∀ q, s.heap.size ≤ q → A q) (isC isR : List Nat) (hC : isC.map (fun i => ws[i]?) = wc.map some) (hR : isR.map (fun i => ws[i]?) = wr.map some) (hnC : va_nd isC = true) (hnR : va_nd isR = true) (hdis : ∀ i ∈ isR, i ∉ isC) (hlen : As.length = n) (hl : lv_has ls nL lv) (hst : st0 = As.reverse ++ rest) (hroom : (rest.map fun v => v.category).sum ≤ 8) (hdg : decode cc pc = .ok (.invokestatic index, 3)) (hf : cells + rm.cells ≤ R.cells ∧ slots + rm.slots ≤ R.slots)
    (kk : ∀ (u : S) (H1 : Heap) (locs1 : List Loc), post u → va_P (gD G) vwCl (wr ++ w1 u) H1 → va_D A (wr ++ w1 u) → va_S A s.heap H1 locs1 → W p l e R s m args below meth c H1 locs1 (cells + rm.cells) (slots + rm.slots) Q (F0 m (pc + 3) ls ((rv u).toList ++ rest))) : W p l e R s m args below meth c H locs cells slots Q (F0 m pc ls st0) :=
  gCall (va_runS F (hM H.size) cw ⟨gPc.blind, fun U hU hW => g_pre hE hK hP hD hS hA isC hC hnC hU hW⟩ rfl hlen hl.1 hst (lv_room hroom) hdg hf) hP hD hS hA isC isR hC hR hnR hdis kk
/-- a private static method of a nest mate -/
theorem gCSN (hE : gE G A s s.heap) (hM : gMet l G y wds rm As wc post rv w1) (cw : va_CN R s args own index y host bytes maxL ret wds rm rm.cells rm.slots n ∧ (Cond.static y).before args s = true ∧ True) (F : CallFix p m c cc nL s args Ts own) (hK : va_K (gD G) vwCl (gT G) s) (hP : va_P (gD G) vwCl ws H) (hD : va_D A ws) (hS : va_S A s.heap H locs) (hA : ∀ q, s.heap.size ≤ q → A q) (isC isR : List Nat) (hC : isC.map (fun i => ws[i]?) = wc.map some) (hR : isR.map (fun i => ws[i]?) = wr.map some) (hnC : va_nd isC = true) (hnR : va_nd isR = true) (hdis : ∀ i ∈ isR, i ∉ isC) (hlen : As.length = n) (hl : lv_has ls nL lv) (hst : st0 = As.reverse ++ rest) (hroom : (rest.map fun v => v.category).sum ≤ 8) (hdg : decode cc pc = .ok (.invokestatic index, 3)) (hf : cells + rm.cells ≤ R.cells ∧ slots + rm.slots ≤ R.slots)
    (kk : ∀ (u : S) (H1 : Heap) (locs1 : List Loc), post u → va_P (gD G) vwCl (wr ++ w1 u) H1 → va_D A (wr ++ w1 u) → va_S A s.heap H1 locs1 → W p l e R s m args below meth c H1 locs1 (cells + rm.cells) (slots + rm.slots) Q (F0 m (pc + 3) ls ((rv u).toList ++ rest))) : W p l e R s m args below meth c H locs cells slots Q (F0 m pc ls st0) :=
  gCall (va_runSN F (hM H.size) cw ⟨gPc.blind, fun U hU hW => g_pre hE hK hP hD hS hA isC hC hnC hU hW⟩ rfl hlen hl.1 hst (lv_room hroom) hdg hf) hP hD hS hA isC isR hC hR hnR hdis kk
/-- a constructor -/
theorem gCI (hE : gE G A s s.heap) (hM : gMet l G y wds rm (.ref b :: As) wc post rv w1) (cw : CallB R s args own index y bytes maxL none wds rm rm.cells rm.slots n ∧ y.name = "<init>" ∧ (Cond.instanceMethod y).before args s = true) (F : CallFix p m c cc nL s args Ts own) (hK : va_K (gD G) vwCl (gT G) s) (hP : va_P (gD G) vwCl ws H) (hD : va_D A ws) (hS : va_S A s.heap H locs) (hA : ∀ q, s.heap.size ≤ q → A q) (isC isR : List Nat) (hC : isC.map (fun i => ws[i]?) = wc.map some) (hR : isR.map (fun i => ws[i]?) = wr.map some) (hnC : va_nd isC = true) (hnR : va_nd isR = true) (hdis : ∀ i ∈ isR, i ∉ isC) (hlen : As.length = n) (hl : lv_has ls nL lv) (hst : st0 = As.reverse ++ .ref b :: rest) (hroom : (rest.map fun v => v.category).sum ≤ 8) (hdg : decode cc pc = .ok (.invokespecial index, 3)) (hf : cells + rm.cells ≤ R.cells ∧ slots + rm.slots ≤ R.slots)
    (kk : ∀ (u : S) (H1 : Heap) (locs1 : List Loc), post u → va_P (gD G) vwCl (wr ++ w1 u) H1 → va_D A (wr ++ w1 u) → va_S A s.heap H1 locs1 → W p l e R s m args below meth c H1 locs1 (cells + rm.cells) (slots + rm.slots) Q (F0 m (pc + 3) ls ((rv u).toList ++ rest))) : W p l e R s m args below meth c H locs cells slots Q (F0 m pc ls st0) :=
  gCall (va_runI F (hM H.size) cw ⟨gPc.blind, fun U hU hW => g_pre hE hK hP hD hS hA isC hC hnC hU hW⟩ rfl hlen hl.1 hst (lv_room hroom) hdg hf) hP hD hS hA isC isR hC hR hnR hdis kk
/-- a private constructor of a nest mate -/
theorem gCIN (hE : gE G A s s.heap) (hM : gMet l G y wds rm (.ref b :: As) wc post rv w1) (cw : va_CN R s args own index y host bytes maxL none wds rm rm.cells rm.slots n ∧ y.name = "<init>" ∧ (Cond.instanceMethod y).before args s = true) (F : CallFix p m c cc nL s args Ts own) (hK : va_K (gD G) vwCl (gT G) s) (hP : va_P (gD G) vwCl ws H) (hD : va_D A ws) (hS : va_S A s.heap H locs) (hA : ∀ q, s.heap.size ≤ q → A q) (isC isR : List Nat) (hC : isC.map (fun i => ws[i]?) = wc.map some) (hR : isR.map (fun i => ws[i]?) = wr.map some) (hnC : va_nd isC = true) (hnR : va_nd isR = true) (hdis : ∀ i ∈ isR, i ∉ isC) (hlen : As.length = n) (hl : lv_has ls nL lv) (hst : st0 = As.reverse ++ .ref b :: rest) (hroom : (rest.map fun v => v.category).sum ≤ 8) (hdg : decode cc pc = .ok (.invokespecial index, 3)) (hf : cells + rm.cells ≤ R.cells ∧ slots + rm.slots ≤ R.slots)
    (kk : ∀ (u : S) (H1 : Heap) (locs1 : List Loc), post u → va_P (gD G) vwCl (wr ++ w1 u) H1 → va_D A (wr ++ w1 u) → va_S A s.heap H1 locs1 → W p l e R s m args below meth c H1 locs1 (cells + rm.cells) (slots + rm.slots) Q (F0 m (pc + 3) ls ((rv u).toList ++ rest))) : W p l e R s m args below meth c H locs cells slots Q (F0 m pc ls st0) :=
  gCall (va_runIN F (hM H.size) cw ⟨gPc.blind, fun U hU hW => g_pre hE hK hP hD hS hA isC hC hnC hU hW⟩ rfl hlen hl.1 hst (lv_room hroom) hdg hf) hP hD hS hA isC isR hC hR hnR hdis kk
/-! ends -/
variable {mc ms : Nat}
theorem g_end {t : State} {v : Option Value} (hP : va_P (gD G) vwCl ws H) (hD : va_D A ws) (hS : va_S A s.heap H locs) (u : S) (hu : post u) (hrv : rv u = v) (is : List Nat) (hn : va_nd is = true) (hs : is.map (fun i => ws[i]?) = (w1 u).map some) (ht : t.heap = H) : gQc G A post rv w1 args s (.returned v) t := ⟨⟨u, by rw [hrv], hu, by rw [ht]; exact hP.sub is (g_fm hs), hD.sub is hn hs⟩, hS.F ht⟩
theorem gIret {v : Int32} (hQ : Q = MQ below (gQc G A post rv w1) args s mc ms A) (hx : p.tables.exec = Jvm.exec) (hb : c.code = cc) (hr : meth.sig.returnType = some .int) (hlocks : meth.locks = false) (hP : va_P (gD G) vwCl ws H) (hD : va_D A ws) (hS : va_S A s.heap H locs) (u : S) (hu : post u) (hrv : rv u = some (.int v)) (is : List Nat) (hn : va_nd is = true) (hs : is.map (fun i => ws[i]?) = (w1 u).map some) (hc : cells ≤ mc) (hsl : slots ≤ ms) (hdg : decode cc pc = .ok (.ireturn, 1)) : W p l e R s m args below meth c H locs cells slots Q (F0 m pc ls [.int v]) := by
  subst hQ
  exact W.widen hc hsl (W.iret hx hb hr (fun t ht _ => g_end hP hD hS u hu hrv is hn hs ht) hS.2.2 hdg (hlocks := hlocks))
theorem g_narZ {v : Int32} (h : v = 0 ∨ v = 1) : narrow .boolean (.int v) = .int v := by rcases h with rfl | rfl <;> rfl
theorem gZret {v : Int32} (hQ : Q = MQ below (gQc G A post rv w1) args s mc ms A) (hx : p.tables.exec = Jvm.exec) (hb : c.code = cc) (hr : meth.sig.returnType = some .boolean) (hlocks : meth.locks = false) (hv : v = 0 ∨ v = 1) (hP : va_P (gD G) vwCl ws H) (hD : va_D A ws) (hS : va_S A s.heap H locs) (u : S) (hu : post u) (hrv : rv u = some (.int v)) (is : List Nat) (hn : va_nd is = true) (hs : is.map (fun i => ws[i]?) = (w1 u).map some) (hc : cells ≤ mc) (hsl : slots ≤ ms) (hdg : decode cc pc = .ok (.ireturn, 1)) : W p l e R s m args below meth c H locs cells slots Q (F0 m pc ls [.int v]) := by
  subst hQ
  exact W.widen hc hsl (W.zret hx hb hr (g_narZ hv) (fun t ht _ => g_end hP hD hS u hu hrv is hn hs ht) hS.2.2 hdg (hlocks := hlocks))
theorem gVret (hQ : Q = MQ below (gQc G A post rv w1) args s mc ms A) (hx : p.tables.exec = Jvm.exec) (hb : c.code = cc) (hr : meth.sig.returnType = none) (hlocks : meth.locks = false) (hP : va_P (gD G) vwCl ws H) (hD : va_D A ws) (hS : va_S A s.heap H locs) (u : S) (hu : post u) (hrv : rv u = none) (is : List Nat) (hn : va_nd is = true) (hs : is.map (fun i => ws[i]?) = (w1 u).map some) (hc : cells ≤ mc) (hsl : slots ≤ ms) (hdg : decode cc pc = .ok (.return_, 1)) : W p l e R s m args below meth c H locs cells slots Q (F0 m pc ls []) := by
  subst hQ
  exact W.widen hc hsl (W.vret hx hb hr (fun t ht _ => g_end hP hD hS u hu hrv is hn hs ht) hS.2.2 hdg (hlocks := hlocks))
theorem gAret {rt : FieldType} {a : Nat} (hQ : Q = MQ below (gQc G A post rv w1) args s mc ms A) (hx : p.tables.exec = Jvm.exec) (hb : c.code = cc) (hr : meth.sig.returnType = some rt) (hrt : (∃ n, rt = .object n) ∨ ∃ t, rt = .array t) (hlocks : meth.locks = false) (hP : va_P (gD G) vwCl ws H) (hD : va_D A ws) (hS : va_S A s.heap H locs) (u : S) (hu : post u) (hrv : rv u = some (.ref a)) (is : List Nat) (hn : va_nd is = true) (hs : is.map (fun i => ws[i]?) = (w1 u).map some) (hc : cells ≤ mc) (hsl : slots ≤ ms) (hdg : decode cc pc = .ok (.areturn, 1)) : W p l e R s m args below meth c H locs cells slots Q (F0 m pc ls [.ref a]) := by
  subst hQ
  exact W.widen hc hsl (W.aret hx hb hr hrt (Or.inr ⟨a, rfl⟩) (fun t ht _ => g_end hP hD hS u hu hrv is hn hs ht) hS.2.2 hdg (hlocks := hlocks))
theorem gLret {v : Int64} (hQ : Q = MQ below (gQc G A post rv w1) args s mc ms A) (hx : p.tables.exec = Jvm.exec) (hb : c.code = cc) (hr : meth.sig.returnType = some .long) (hlocks : meth.locks = false) (hP : va_P (gD G) vwCl ws H) (hD : va_D A ws) (hS : va_S A s.heap H locs) (u : S) (hu : post u) (hrv : rv u = some (.long v)) (is : List Nat) (hn : va_nd is = true) (hs : is.map (fun i => ws[i]?) = (w1 u).map some) (hc : cells ≤ mc) (hsl : slots ≤ ms) (hdg : decode cc pc = .ok (.lreturn, 1)) : W p l e R s m args below meth c H locs cells slots Q (F0 m pc ls [.long v]) := by
  subst hQ
  exact W.widen hc hsl (W.lret hx hb hr (fun t ht _ => g_end hP hD hS u hu hrv is hn hs ht) hS.2.2 hdg (hlocks := hlocks))
/-- the number on top by another name -/
theorem gTop {x y : Int32} (h : x = y) (k : W p l e R s m args below meth c H locs cells slots Q (F0 m pc ls (.int y :: rest))) : W p l e R s m args below meth c H locs cells slots Q (F0 m pc ls (.int x :: rest)) := h ▸ k
theorem gTopL {x y : Int64} (h : x = y) (k : W p l e R s m args below meth c H locs cells slots Q (F0 m pc ls (.long y :: rest))) : W p l e R s m args below meth c H locs cells slots Q (F0 m pc ls (.long x :: rest)) := h ▸ k
end GC
