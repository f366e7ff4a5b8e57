/-! worlds as blocks in any order; a contract with more cells around it -/
theorem vaP_iff {D : va_G} {cl : List vw_C} {ws : va_W} {H : Heap} : va_P D cl ws H ↔ ∀ q ∈ ws, va_at D cl q H := ⟨fun h q hq => by
  obtain ⟨k, hk⟩ := List.getElem?_of_mem hq
  exact h k q hk, fun h k q hk => h q (List.mem_of_getElem? hk)⟩
theorem vaD_iff {A : Nat → Prop} {ws : va_W} : va_D A ws ↔ (ws.map (fun q => q.1)).Nodup ∧ ∀ q ∈ ws, A q.1 := by
  constructor
  · intro h
    refine ⟨List.pairwise_iff_getElem.mpr fun i j hi hj hij e => ?_, fun q hq => ?_⟩
    · rw [List.getElem_map, List.getElem_map] at e
      rw [List.length_map] at hi hj
      have := h.1 i j _ _ (List.getElem?_eq_getElem hi) (List.getElem?_eq_getElem hj) e
      omega
    · obtain ⟨k, hk⟩ := List.getElem?_of_mem hq
      exact h.2 k q hk
  · intro h
    refine ⟨fun i j p q hp hq e => ?_, fun k q hk => h.2 q (List.mem_of_getElem? hk)⟩
    obtain ⟨hi, ei⟩ := List.getElem?_eq_some_iff.mp hp
    obtain ⟨hj, ej⟩ := List.getElem?_eq_some_iff.mp hq
    have hpw := List.pairwise_iff_getElem.mp h.1
    refine Classical.byContradiction fun hne => ?_
    rcases Nat.lt_or_ge i j with hij | hij
    · refine hpw i j (by rw [List.length_map]; exact hi) (by rw [List.length_map]; exact hj) hij ?_
      rw [List.getElem_map, List.getElem_map, ei, ej]
      exact e
    · refine hpw j i (by rw [List.length_map]; exact hj) (by rw [List.length_map]; exact hi) (by omega) ?_
      rw [List.getElem_map, List.getElem_map, ei, ej]
      exact e.symm
theorem vaP_perm {D : va_G} {cl : List vw_C} {ws ws' : va_W} {H : Heap} (h : ws.Perm ws') (hP : va_P D cl ws H) : va_P D cl ws' H := vaP_iff.mpr fun q hq => vaP_iff.mp hP q (h.mem_iff.mpr hq)
theorem vaD_perm {A : Nat → Prop} {ws ws' : va_W} (h : ws.Perm ws') (hD : va_D A ws) : va_D A ws' := vaD_iff.mpr ⟨(h.map _).nodup_iff.mp (vaD_iff.mp hD).1, fun q hq => (vaD_iff.mp hD).2 q (h.mem_iff.mpr hq)⟩
theorem vaP_sub {D : va_G} {cl : List vw_C} {ws ws' : va_W} {H : Heap} (h : ws'.Sublist ws) (hP : va_P D cl ws H) : va_P D cl ws' H := vaP_iff.mpr fun q hq => vaP_iff.mp hP q (h.subset hq)
theorem vaD_sub {A : Nat → Prop} {ws ws' : va_W} (h : ws'.Sublist ws) (hD : va_D A ws) : va_D A ws' := vaD_iff.mpr ⟨(h.map _).nodup (vaD_iff.mp hD).1, fun q hq => (vaD_iff.mp hD).2 q (h.subset hq)⟩
theorem permC {α : Type} {l1 l2 : List α} (h : ∀ (_ : DecidableEq α) (a : α), l1.count a = l2.count a) : l1.Perm l2 := by
  haveI : DecidableEq α := Classical.typeDecidableEq α
  exact List.perm_iff_count.mpr (h inferInstance)
theorem gJnG {G : gG} {A : Nat → Prop} {ws wc wr : va_W} {out : va_W → va_W} (hp : ws.Perm (wc ++ wr)) (ho : ∀ w, (wr ++ w).Perm (out w)) : gJn G A ws wc out := by
  refine ⟨fun H h => vaP_sub (List.sublist_append_left wc wr) (vaP_perm hp h), fun h => vaD_sub (List.sublist_append_left wc wr) (vaD_perm hp h), fun H H1 w1 hP hD hk hF hP1 hD1 => ?_⟩
  have hP' := vaP_iff.mp (vaP_perm hp hP)
  obtain ⟨n0, a0⟩ := vaD_iff.mp (vaD_perm hp hD)
  rw [List.map_append, List.nodup_append] at n0
  obtain ⟨n1, n2, n3⟩ := n0
  have apart : ∀ q ∈ wr, q.1 < H.size ∧ ¬ va_A wc H.size q.1 := fun q hq => by
    have hl := (hP' q (List.mem_append_right _ hq)).lt
    refine ⟨hl, fun h => ?_⟩
    rcases h with ⟨k, e, h⟩ | h
    · exact n3 q.1 (List.mem_map.mpr ⟨(q.1, e), List.mem_of_getElem? h, rfl⟩) q.1 (List.mem_map.mpr ⟨q, hq, rfl⟩) rfl
    · omega
  refine ⟨vaP_perm (ho w1) (vaP_iff.mpr fun q hq => ?_), vaD_perm (ho w1) (vaD_iff.mpr ⟨?_, fun q hq => ?_⟩)⟩
  · rcases List.mem_append.mp hq with h | h
    · exact (hP' q (List.mem_append_right _ h)).kept (hk q.1 (apart q h).1 (apart q h).2)
    · exact vaP_iff.mp hP1 q h
  · rw [List.map_append, List.nodup_append]
    refine ⟨n2, (vaD_iff.mp hD1).1, fun a ha b hb e => ?_⟩
    obtain ⟨x, hx, ex⟩ := List.mem_map.mp ha
    obtain ⟨y, hy, ey⟩ := List.mem_map.mp hb
    have h1 : va_A wc H.size y.1 := (vaD_iff.mp hD1).2 y hy
    refine (apart x hx).2 ?_
    have ee : x.1 = y.1 := by rw [show x.1 = a from ex, show y.1 = b from ey, e]
    rw [ee]
    exact h1
  · rcases List.mem_append.mp hq with h | h
    · exact a0 q (List.mem_append_right _ h)
    · exact hF q.1 ((vaD_iff.mp hD1).2 q h)
/-- the callee's cells are a block -/
theorem gJ1 {G : gG} {A : Nat → Prop} (Y C S : va_W) : gJn G A (Y ++ (C ++ S)) C (fun w => Y ++ (w ++ S)) := gJnG (wr := Y ++ S) (permC fun _ a => by simp only [List.count_append]; omega) (fun w => permC fun _ a => by simp only [List.count_append]; omega)
theorem gJ2 {G : gG} {A : Nat → Prop} (Y P C S : va_W) : gJn G A (Y ++ (P ++ (C ++ S))) C (fun w => Y ++ (P ++ (w ++ S))) := gJnG (wr := Y ++ (P ++ S)) (permC fun _ a => by simp only [List.count_append]; omega) (fun w => permC fun _ a => by simp only [List.count_append]; omega)
theorem gJ3 {G : gG} {A : Nat → Prop} (Y P Q C S : va_W) : gJn G A (Y ++ (P ++ (Q ++ (C ++ S)))) C (fun w => Y ++ (P ++ (Q ++ (w ++ S)))) := gJnG (wr := Y ++ (P ++ (Q ++ S))) (permC fun _ a => by simp only [List.count_append]; omega) (fun w => permC fun _ a => by simp only [List.count_append]; omega)
theorem gJ4 {G : gG} {A : Nat → Prop} (Y P Q N C S : va_W) : gJn G A (Y ++ (P ++ (Q ++ (N ++ (C ++ S))))) C (fun w => Y ++ (P ++ (Q ++ (N ++ (w ++ S))))) := gJnG (wr := Y ++ (P ++ (Q ++ (N ++ S)))) (permC fun _ a => by simp only [List.count_append]; omega) (fun w => permC fun _ a => by simp only [List.count_append]; omega)
/-- .. the last ones -/
theorem gJ3e {G : gG} {A : Nat → Prop} (Y P Q C : va_W) : gJn G A (Y ++ (P ++ (Q ++ C))) C (fun w => Y ++ (P ++ (Q ++ w))) := gJnG (wr := Y ++ (P ++ Q)) (permC fun _ a => by simp only [List.count_append]; omega) (fun w => permC fun _ a => by simp only [List.count_append]; omega)
/-- .. none -/
theorem gJ0 {G : gG} {A : Nat → Prop} (ws : va_W) : gJn G A ws [] (fun w => ws ++ w) := gJnG (wr := ws) (List.Perm.refl _) (fun w => List.Perm.refl _)
/-- .. the last of those that stand open; it becomes a block -/
theorem gJb {G : gG} {A : Nat → Prop} (Y C S : va_W) : gJn G A ((Y ++ C) ++ S) C (fun w => Y ++ (w ++ S)) := gJnG (wr := Y ++ S) (permC fun _ a => by simp only [List.count_append]; omega) (fun w => permC fun _ a => by simp only [List.count_append]; omega)
theorem gE_sub {G : gG} {A B : Nat → Prop} {U : State} (h : gE G A U U.heap) (hB : ∀ q, B q → A q) : gE G B U U.heap := gE.go (s := U) (U := U) h (State.WarmedH.refl U) (fun _ _ _ => rfl) hB
/-- THE FRAME: a contract with more cells around it, its world and its answer in other words -/
theorem gLift {S S2 : Type} {l : Launch} {G : gG} {y : MethodName} {wds : List Cond} {rm : Room} {av : List Value} {ws wc wr : va_W} {post : S → Prop} {post2 : S2 → Prop} {rv : S → Option Value} {rv2 : S2 → Option Value} {w1 : S → va_W} {w2 : S2 → va_W} (hM : gMet l G y wds rm av wc post rv w1) (φ : S → S2) (isC isR is : List Nat) (hC : isC.map (fun i => ws[i]?) = wc.map some) (hR : isR.map (fun i => ws[i]?) = wr.map some) (hnC : va_nd isC = true) (hnR : va_nd isR = true) (hdis : ∀ i ∈ isR, i ∉ isC) (hn : va_nd is = true) (hs : ∀ u, is.map (fun i => (wr ++ w1 u)[i]?) = (w2 (φ u)).map some) (hφ : ∀ u, post u → post2 (φ u) ∧ rv2 (φ u) = rv u) : gMet l G y wds rm av ws post2 rv2 w2 := by
  intro sz
  have mem : ∀ (q : Nat × va_E), q ∈ wc → q ∈ ws := fun q hq => by
    rw [← g_fm hC] at hq
    obtain ⟨i, _, hi⟩ := List.mem_filterMap.mp hq
    exact List.mem_of_getElem? hi
  have sub : ∀ q, va_A wc sz q → va_A ws sz q := fun q h => by
    rcases h with ⟨k, e, h⟩ | h
    · obtain ⟨i, hi⟩ := List.getElem?_of_mem (mem _ (List.mem_of_getElem? h))
      exact Or.inl ⟨i, e, hi⟩
    · exact Or.inr h
  refine MetFree.mono (hM sz) (fun a st h => ?_) (fun _ _ _ _ _ h => h) (fun a st o t hp h => ?_)
  · obtain ⟨e, h1, h2, h3, h4, h5⟩ := h
    exact ⟨e, h1, h2.sub isC (g_fm hC), h3, h4.sub isC hnC hC, gE_sub h5 sub⟩
  · obtain ⟨⟨⟨u, hv, hpu, hP1, hD1⟩, hF⟩, L, hL1, hL2⟩ := h
    obtain ⟨-, hz, hP, -, hD, -⟩ := hp
    subst hz
    have hD' : va_D (va_A ws st.heap.size) ws := hD.self
    obtain ⟨hP2, hD2⟩ := va_join hP hD' isC isR hC hR hnR hdis hF.2 sub hP1 hD1
    obtain ⟨p2, r2⟩ := hφ u hpu
    exact ⟨⟨⟨φ u, by rw [r2]; exact hv, p2, hP2.sub is (g_fm (hs u)), hD2.sub is hn (hs u)⟩, hF.1, fun q h1 h2 => hF.2 q h1 (fun z => h2 (sub q z))⟩, L, hL1, fun q hq => sub _ (hL2 q hq)⟩
/-- the same world in other words -/
theorem gMet_eq {S : Type} {l : Launch} {G : gG} {y : MethodName} {wds : List Cond} {rm : Room} {av : List Value} {ws ws' : va_W} {post : S → Prop} {rv : S → Option Value} {w1 w1' : S → va_W} (hM : gMet l G y wds rm av ws post rv w1) (e : ws = ws') (e1 : ∀ u, w1 u = w1' u) : gMet l G y wds rm av ws' post rv w1' := by
  have : w1 = w1' := funext e1
  subst e this
  exact hM
/-- a weaker promise, in other words, over the same cells -/
theorem gMet_im {S S2 : Type} {l : Launch} {G : gG} {y : MethodName} {wds : List Cond} {rm : Room} {av : List Value} {ws : va_W} {post : S → Prop} {post2 : S2 → Prop} {rv : S → Option Value} {rv2 : S2 → Option Value} {w1 : S → va_W} {w2 : S2 → va_W} (hM : gMet l G y wds rm av ws post rv w1) (φ : S → S2) (hφ : ∀ u, post u → post2 (φ u) ∧ rv2 (φ u) = rv u ∧ w1 u = w2 (φ u)) : gMet l G y wds rm av ws post2 rv2 w2 := by
  intro sz
  refine MetFree.mono (hM sz) (fun a st h => h) (fun _ _ _ _ _ h => h) (fun a st o t hp h => ?_)
  obtain ⟨⟨⟨u, hv, hpu, hP1, hD1⟩, hF⟩, L, hL1, hL2⟩ := h
  obtain ⟨p2, r2, e2⟩ := hφ u hpu
  rw [e2] at hP1 hD1
  exact ⟨⟨⟨φ u, by rw [r2]; exact hv, p2, hP1, hD1⟩, hF⟩, L, hL1, hL2⟩
