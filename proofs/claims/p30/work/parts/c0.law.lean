/-! the law's walk: what stays known, what holds between two rounds -/
def lX (P9 : Program) (s : State) (m9 : MethodId) (c9 : Code) (args : Array Value) (G : gG) (A : Nat → Prop) : Prop := P9.tables.exec = Jvm.exec ∧ c9.code = cL_law ∧ c9.maxLocals = 16 ∧ s.vm.findClass RL = some m9.cls ∧ (∀ w ∈ wsL_law, w.before args s = true) ∧ va_K (gD G) vwCl (gT G) s ∧ (∀ q, s.heap.size ≤ q → A q) ∧ gE G A s s.heap ∧ 500000 ≤ room_1.cells ∧ 6000000 ≤ room_1.slots
theorem gJ1e {G : gG} {A : Nat → Prop} (Y C : va_W) : gJn G A (Y ++ C) C (fun w => Y ++ w) := gJnG (wr := Y) List.perm_append_comm (fun w => List.Perm.refl _)
theorem gJ2e {G : gG} {A : Nat → Prop} (Y P C : va_W) : gJn G A (Y ++ (P ++ C)) C (fun w => Y ++ (P ++ w)) := gJnG (wr := Y ++ P) (permC fun _ a => by simp only [List.count_append]; omega) (fun w => permC fun _ a => by simp only [List.count_append]; omega)
/-- the callee has no cells -/
theorem gJz {G : gG} {A : Nat → Prop} (ws : va_W) : gJn G A ws [] (fun w => w ++ ws) := gJnG (wr := ws) (List.Perm.refl _) (fun _ => List.perm_append_comm)
theorem sub_drop (Y K M B I T Z : va_W) : (Y ++ (M ++ (B ++ (T ++ Z)))).Sublist (Y ++ (K ++ (M ++ (B ++ ((I ++ T) ++ Z))))) := List.Sublist.append (List.Sublist.refl _) ((List.Sublist.append (List.Sublist.refl M) (List.Sublist.append (List.Sublist.refl B) (List.Sublist.append (List.sublist_append_right I T) (List.Sublist.refl Z)))).trans (List.sublist_append_right K _))
/-- an open array goes into the pool -/
theorem gpoolY {A : Nat → Prop} {Y M B T : va_W} {L : List Nat} {F : Nat → va_E} {q : Nat} {e : va_E} (hD : va_D A ((Y ++ [(q, e)]) ++ (M ++ (B ++ (T ++ va_pl L F))))) : q ∉ L := by
  intro h
  have hn := (vaD_iff.mp hD).1
  have hp : ((Y ++ [(q, e)]) ++ (M ++ (B ++ (T ++ va_pl L F)))).Perm ([(q, e)] ++ (va_pl L F ++ (Y ++ (M ++ (B ++ T))))) := permC fun _ a => by simp only [List.count_append]; omega
  have hn2 := ((hp.map (fun q => q.1)).nodup_iff.mp hn)
  rw [List.map_append, List.nodup_append] at hn2
  refine hn2.2.2 q (List.mem_singleton.mpr rfl) q ?_ rfl
  rw [List.map_append]
  refine List.mem_append_left _ (List.mem_map.mpr ⟨(q, F q), List.mem_map.mpr ⟨q, h, rfl⟩, rfl⟩)
theorem gpoolP {Y M B T : va_W} {L : List Nat} {F : Nat → va_E} {q : Nat} {e : va_E} (h : q ∉ L) : ((Y ++ [(q, e)]) ++ (M ++ (B ++ (T ++ va_pl L F)))).Perm (Y ++ (M ++ (B ++ (T ++ va_pl (L ++ [q]) (va_up F q e))))) := by
  rw [← va_pl_push h]
  exact permC fun _ a => by simp only [List.count_append]; omega
section GC0
variable {p : Program} {l : Launch} {e : Env} {R : Room} {s : State} {m : MethodId} {args : Array Value} {below : List Frame} {meth : Method} {c : Code} {H : Heap} {locs : List Loc} {cells slots : Nat} {Q : State → Prop}
variable {cc : ByteArray} {pc : Nat} {ls : Array Slot} {rest : List Value} {A : Nat → Prop} {ws : va_W} {G : gG} {a : Nat}
/-- an array goes into an array -/
theorem gR_astX {i n v : Nat} {f : Nat → Option Nat} {x : vp_A} (hx : p.tables.exec = Jvm.exec) (hb : c.code = cc) (hE : gE G A s s.heap) (hK : va_K (gD G) vwCl (gT G) s) (hP : va_P (gD G) vwCl ws H) (hD : va_D A ws) (hS : va_S A s.heap H locs) (t0 : Nat) {t : FieldType} {cA cR : ClassId} (ht0 : (gT G)[t0]? = some (cA, .array t)) (hZ : va_AOA t s) (hR : s.vm.findClass (FieldType.array t).toString = some cR) (j0 : Nat) (ha : ws[j0]? = some (a, .inl (cA, n, .inr (.inr (.inr (.inr f)))))) (j1 : Nat) (hv : ws[j1]? = some (v, .inl (cR, x))) (hi : i < n) (hn : n < 2 ^ 31) (hdg : decode cc pc = .ok (.aastore, 1))
    (kk : ∀ (H1 : Heap) (locs1 : List Loc), va_P (gD G) vwCl (ws.set j0 (a, .inl (cA, n, .inr (.inr (.inr (.inr (va_up f i (some v)))))))) H1 → va_D A (ws.set j0 (a, .inl (cA, n, .inr (.inr (.inr (.inr (va_up f i (some v)))))))) → va_S A s.heap H1 locs1 → W p l e R s m args below meth c H1 locs1 cells slots Q (F0 m (pc + 1) ls rest)) : W p l e R s m args below meth c H locs cells slots Q (F0 m pc ls (.ref v :: .int (nI i) :: .ref a :: rest)) := by
  have hcl : (nI i).toNatClampNeg = i := nI_clamp (by omega)
  have hcell : H[v]? = some (vp_cell cR x) := hP j1 _ hv
  have hvm : (vp_cell cR x).vm = .none ∧ (vp_cell cR x).cls = cR := by
    obtain ⟨n, x⟩ := x
    rcases x with x | x | x | x | x <;> exact ⟨rfl, rfl⟩
  obtain ⟨comp, cA2, kA, k3, -, k1, k2, k4⟩ := arrayOverA_spec (va_AOA.use (v := args) hZ)
  cases ((hK.2 t0 _ ht0).2 : s.vm.findClass ("[" ++ (FieldType.array t).toString) = some cA).symm.trans k4
  cases k3.symm.trans hR
  obtain ⟨kE, hkE, -⟩ := Vm.findClass_spec k3
  refine W.aast hx hb (hP j0 _ ha) (fun q h => by cases h) (fun h => by cases h) k1 k2 rfl hkE ⟨nI_pos (by omega), by show _ < (arrV _ _ _).slots.size; rw [arrV_size, hcl]; exact hi⟩ hcell (fun q h => by rw [hvm.1] at h; cases h) (by rw [hvm.2]; exact hkE) (by rw [hvm.2]; exact va_asg _ _) rfl rfl hdg fun H1 e z oq => ?_
  refine kk H1 _ (hP.set hD ha ?_ oq) (hD.set ha) (hS.put z oq (hD.2 j0 _ ha))
  show H1[a]? = some (vp_cell _ _)
  rw [e, hcl, vp_cell_q, vp_cell_q, arrV_store]
  refine congrArg (fun g => some (arrV _ n g)) (funext fun q => ?_)
  by_cases hq : q = i
  · subst hq
    simp [updV, va_up, va_rf]
  · simp [updV, va_up, va_rf, hq]
end GC0
theorem popc_le10 (x : Nat) : popc x ≤ 10 := by
  unfold popc
  have h := fun k => Bool.toNat_le (x.testBit k)
  have h0 := h 0; have h1 := h 1; have h2 := h 2; have h3 := h 3; have h4 := h 4; have h5 := h 5; have h6 := h 6; have h7 := h 7; have h8 := h 8; have h9 := h 9
  omega
theorem and1_lt (x : Nat) : x &&& 1 < 2 ^ 31 := by
  rw [Nat.and_one_is_mod]
  omega
theorem bit_yes {a k : Nat} (h : a / 2 ^ k &&& 1 = 1) : a.testBit k = true := by
  rw [n_bit1] at h
  exact tb_t (by rw [h]; decide)
theorem bit_no {a k : Nat} (h : ¬ a / 2 ^ k &&& 1 = 1) : ¬ a.testBit k = true := fun z => h (by rw [n_bit1, z]; rfl)
theorem bit_not {a k : Nat} (h : ¬ a.testBit k = true) : ¬ a / 2 ^ k &&& 1 = 1 := fun z => h (bit_yes z)
theorem bit_both {a i j : Nat} (h : a / 2 ^ i &&& a / 2 ^ j &&& 1 = 1) : a.testBit i = true ∧ a.testBit j = true := by
  rw [Nat.and_assoc, n_bit1] at h
  cases hj : a.testBit j
  · rw [hj] at h
    have h2 : a / 2 ^ i &&& 0 = 1 := h
    rw [Nat.and_zero] at h2
    cases h2
  · rw [hj] at h
    exact ⟨bit_yes h, rfl⟩
theorem ch_fn {n : Nat} {P : Nat → Nat → Prop} (h : ∀ u, u < n → ∃ w, P u w) : ∃ v : Nat → Nat, ∀ u, u < n → P u (v u) := ⟨fun u => if hu : u < n then (h u hu).choose else 0, fun u hu => by
  show P u (if hu : u < n then (h u hu).choose else 0)
  rw [dif_pos hu]
  exact (h u hu).choose_spec⟩
theorem pairR_neg {g : Nat → Nat} {line n : Nat} {r : Int32} (hn : n ≤ 7) (h : pairR g line n r) (hr : ¬ 0 ≤ r) : ¬ anyP g line n := by
  refine pairR_no hn h ?_
  rcases h with h | ⟨i, j, hij, hj, _, e⟩
  · exact h.1
  · rw [e] at hr
    exact absurd (Int32.not_lt.mp (show ¬ nI (i * 10 + j) < 0 from nI_pos (by omega))) hr
/-! what is put together of the repair: the law's question and the class's answer -/
theorem rep_yes {S B P0 P1 g NF Wt : Nat → Nat} {n rp u : Nat} (he : eds S B P0 P1 n) (hr : isRep S B n g 6 rp) (hg0 : ∀ i, i < 6 → ¬ (g i).testBit i = true) (hgs : ∀ i j, i < 6 → j < 6 → (g i).testBit j = true → (g j).testBit i = true) (hNF : ∀ k, k < 6 → NF k = g k) (hP : PW P0 P1 rp n Wt) (hd : dnE P0 P1 rp Wt n) (ho : (u = 1 ∧ ∀ k, k < 6 → Wt k &&& NF k = 0) ∨ (u = 0 ∧ ∃ k, k < 6 ∧ Wt k &&& NF k ≠ 0)) : u = 1 := by
  rcases ho with h | ⟨_, k, hk, h⟩
  · exact h.1
  · rw [hNF k hk] at h
    exact absurd (noLk_shut he (fun k hk => clr_set hk) hP hd hg0 hgs (isRep_shut hr) k hk) h
theorem rep_no {S B P0 P1 g NF Wt : Nat → Nat} {n rp t u : Nat} (hn : n < 9) (ht : t < 2 ^ n) (hp : popc t < popc rp) (he : eds S B P0 P1 n) (hr : isRep S B n g 6 rp) (hNF : ∀ k, k < 6 → NF k = g k) (hP : PW P0 P1 t n Wt) (hd : dnE P0 P1 t Wt n) (ho : (u = 1 ∧ ∀ k, k < 6 → Wt k &&& NF k = 0) ∨ (u = 0 ∧ ∃ k, k < 6 ∧ Wt k &&& NF k ≠ 0)) : u = 0 := by
  rcases ho with ⟨_, h⟩ | h
  · exact absurd (shut_noLk he (fun k hk => clr_set hk) hP hd (fun k hk => by rw [← hNF k hk]; exact h k hk)) (isRep_min hn hr ht hp)
  · exact h.1
/-! what holds between two rounds -/
def RI (n : Nat) (zm zb : DSt) (C : Nat → Nat) (tn tN : Nat) (tf : Nat → Option Nat) (LP : List Nat) (D : Nat → Nat → Nat) (pf : Nat → Option Nat) (np nt : Nat) : Prop := (dI zm 6 6 4 ∧ dI zb 6 6 4 ∧ fc zm = fc zb) ∧ (∀ k, k < 4 → C k = cir (zm.1 8) k) ∧ (tn ≤ n ∧ tlN tn tN ∧ ∀ i, i < tn → ∃ y, tf i = some y ∧ y ∈ LP ∧ D y 0 < 4 ∧ D y 1 < 64 ∧ (zm.1 9 (D y 1)).testBit (D y 0) = true) ∧ (∀ k, k < np → ∃ y, pf k = some y ∧ y ∈ LP ∧ D y 0 < 6 ∧ D y 1 < 6 ∧ D y 0 ≠ D y 1 ∧ zm.1 3 k = min (D y 0) (D y 1) ∧ zm.1 4 k = max (D y 0) (D y 1)) ∧ np = zm.2.1 4 ∧ nt = zm.2.1 2
section GRI
variable {n : Nat} {zm zb z1 z2 : DSt} {C C2 : Nat → Nat} {tn tN : Nat} {tf : Nat → Option Nat} {LP : List Nat} {D : Nat → Nat → Nat} {pf : Nat → Option Nat} {np nt nt2 : Nat}
theorem RI_gen (hI : RI n zm zb C tn tN tf LP D pf np nt) (h1 : dI z1 6 6 4) (h2 : dI z2 6 6 4) (hf : fc z1 = fc z2) (hC2 : ∀ k, k < 4 → C2 k = cir (z1.1 8) k) (eS : z1.1 3 = zm.1 3) (eB : z1.1 4 = zm.1 4) (ep : z1.2.1 4 = zm.2.1 4) (hh : ∀ y j, (zm.1 9 y).testBit j = true → (z1.1 9 y).testBit j = true) (ht : nt2 = z1.2.1 2) : RI (n + 1) z1 z2 C2 tn tN tf LP D pf np nt2 := by
  obtain ⟨-, -, ⟨h3, h4, h5⟩, h6, h7, h8⟩ := hI
  refine ⟨⟨h1, h2, hf⟩, hC2, ⟨by omega, h4, fun i hi => ?_⟩, fun k hk => ?_, h7.trans ep.symm, ht⟩
  · obtain ⟨y, a1, a2, a3, a4, a5⟩ := h5 i hi
    exact ⟨y, a1, a2, a3, a4, hh _ _ a5⟩
  · rw [eS, eB]
    exact h6 k hk
theorem RI_same (hI : RI n zm zb C tn tN tf LP D pf np nt) (h1 : dI z1 6 6 4) (h2 : dI z2 6 6 4) (hf : fc z1 = fc z2) (he : (fc z1).2.2.2.2 = (fc zm).2.2.2.2) (ht : nt2 = z1.2.1 2) : RI (n + 1) z1 z2 C tn tN tf LP D pf np nt2 := by
  have et : z1.1 8 = zm.1 8 := congrArg (fun q => q.2.2.2.1) he
  have eh : z1.1 9 = zm.1 9 := congrArg (fun q => q.2.2.2.2) he
  exact RI_gen hI h1 h2 hf (fun k hk => by rw [et]; exact hI.2.1 k hk) (congrArg (fun q => q.1) he) (congrArg (fun q => q.2.1) he) (congrArg (fun q => q.2.2.1) he) (fun y j h => by rw [eh]; exact h) ht
theorem RI_next (hI : RI n zm zb C tn tN tf LP D pf np nt) : RI (n + 1) zm zb C tn tN tf LP D pf np nt := RI_same hI hI.1.1 hI.1.2.1 hI.1.2.2 rfl hI.2.2.2.2.2
/-- a new permit -/
theorem RI_perm {a b q : Nat} {f : Nat → Nat} (hI : RI n zm zb C tn tN tf LP D pf np nt) (h1 : dI z1 6 6 4) (h2 : dI z2 6 6 4) (hf : fc z1 = fc z2) (he : fc z1 = ((fc zm).1, (fc zm).2.1, (fc zm).2.2.1, (fc zm).2.2.2.1, va_up (zm.1 3) (zm.2.1 4) (min a b), va_up (zm.1 4) (zm.2.1 4) (max a b), zm.2.1 4 + 1, (fc zm).2.2.2.2.2.2.2)) (ha : a < 6) (hb : b < 6) (hab : a ≠ b) (hq : q ∉ LP) (f0 : f 0 = a) (f1 : f 1 = b) : RI (n + 1) z1 z2 C tn tN tf (LP ++ [q]) (va_up D q f) (va_up pf np (some q)) (np + 1) nt := by
  obtain ⟨-, hC, ⟨h3, h4, h5⟩, h6, h7, h8⟩ := hI
  have et : z1.1 8 = zm.1 8 := congrArg (fun q => q.2.2.2.2.2.2.2.1) he
  have eh : z1.1 9 = zm.1 9 := congrArg (fun q => q.2.2.2.2.2.2.2.2) he
  have eS : z1.1 3 = va_up (zm.1 3) (zm.2.1 4) (min a b) := congrArg (fun q => q.2.2.2.2.1) he
  have eB : z1.1 4 = va_up (zm.1 4) (zm.2.1 4) (max a b) := congrArg (fun q => q.2.2.2.2.2.1) he
  have ep : z1.2.1 4 = zm.2.1 4 + 1 := congrArg (fun q => q.2.2.2.2.2.2.1) he
  have ec : z1.2.1 2 = zm.2.1 2 := congrArg (fun q => q.2.2.2.1) he
  have old : ∀ y, y ∈ LP → va_up D q f y = D y := fun y hy => va_up_ne _ _ (fun z => hq (z ▸ hy))
  refine ⟨⟨h1, h2, hf⟩, fun k hk => by rw [et]; exact hC k hk, ⟨by omega, h4, fun i hi => ?_⟩, fun k hk => ?_, by omega, by omega⟩
  · obtain ⟨y, a1, a2, a3, a4, a5⟩ := h5 i hi
    exact ⟨y, a1, List.mem_append_left _ a2, by rw [old y a2]; exact a3, by rw [old y a2]; exact a4, by rw [old y a2, eh]; exact a5⟩
  · rw [eS, eB]
    by_cases e : k = np
    · refine ⟨q, by rw [e]; exact va_up_self _ _ _, List.mem_append_right _ (List.mem_singleton.mpr rfl), ?_⟩
      rw [e, h7, va_up_self, va_up_self, va_up_self, f0, f1]
      exact ⟨ha, hb, hab, rfl, rfl⟩
    · obtain ⟨y, a1, a2, a3⟩ := h6 k (by omega)
      refine ⟨y, by rw [va_up_ne _ _ e]; exact a1, List.mem_append_left _ a2, ?_⟩
      rw [old y a2, va_up_ne _ _ (by omega), va_up_ne _ _ (by omega)]
      exact a3
theorem hrT_bit {hr t : Nat → Nat} {le k x y j : Nat} (h : (hr y).testBit j = true) : (hrT hr t le k x y).testBit j = true := by
  unfold hrT
  split
  · rw [va_up_at]
    split
    · rename_i e
      rw [e] at h
      exact or_bit.mpr (Or.inl h)
    · exact h
  · exact h
theorem hrT_new {hr t : Nat → Nat} {le k x : Nat} (h : acc hr t le k x = true) : (hrT hr t le k x x).testBit k = true := by
  unfold hrT
  rw [if_pos h, va_up_self]
  exact or_bit.mpr (Or.inr (by rw [Nat.testBit_two_pow, decide_eq_true rfl]))
/-- a sum was told -/
theorem RI_ask {q tN2 : Nat} {f : Nat → Nat} {tf2 : Nat → Option Nat} {k x : Nat} (hI : RI n zm zb C tn tN tf LP D pf np nt) (h1 : dI z1 6 6 4) (h2 : dI z2 6 6 4) (hf : fc z1 = fc z2) (he : fc z1 = ((fc zm).1, (fc zm).2.1, (fc zm).2.2.1, (fc zm).2.2.2.1, (fc zm).2.2.2.2.1, (fc zm).2.2.2.2.2.1, (fc zm).2.2.2.2.2.2.1, zm.1 8, hrT (zm.1 9) (zm.1 8) 2 k x)) (ha : acc (zm.1 9) (zm.1 8) 2 k x = true) (hk : k < 4) (hx : x < 64) (hq : q ∉ LP) (f0 : f 0 = k) (f1 : f 1 = x) (hN2 : tlN (tn + 1) tN2) (ho : ∀ j, j < tn → tf2 j = tf j) (hv : tf2 tn = some q) : RI (n + 1) z1 z2 C (tn + 1) tN2 tf2 (LP ++ [q]) (va_up D q f) pf np nt := by
  obtain ⟨-, hC, ⟨h3, h4, h5⟩, h6, h7, h8⟩ := hI
  have et : z1.1 8 = zm.1 8 := congrArg (fun q => q.2.2.2.2.2.2.2.1) he
  have eh : z1.1 9 = hrT (zm.1 9) (zm.1 8) 2 k x := congrArg (fun q => q.2.2.2.2.2.2.2.2) he
  have eS : z1.1 3 = zm.1 3 := congrArg (fun q => q.2.2.2.2.1) he
  have eB : z1.1 4 = zm.1 4 := congrArg (fun q => q.2.2.2.2.2.1) he
  have ep : z1.2.1 4 = zm.2.1 4 := congrArg (fun q => q.2.2.2.2.2.2.1) he
  have ec : z1.2.1 2 = zm.2.1 2 := congrArg (fun q => q.2.2.2.1) he
  have old : ∀ y, y ∈ LP → va_up D q f y = D y := fun y hy => va_up_ne _ _ (fun z => hq (z ▸ hy))
  refine ⟨⟨h1, h2, hf⟩, fun k hk => by rw [et]; exact hC k hk, ⟨by omega, hN2, fun i hi => ?_⟩, fun k hk => ?_, by omega, by omega⟩
  · by_cases e : i = tn
    · refine ⟨q, by rw [e]; exact hv, List.mem_append_right _ (List.mem_singleton.mpr rfl), ?_⟩
      rw [va_up_self, f0, f1, eh]
      exact ⟨hk, hx, hrT_new ha⟩
    · obtain ⟨y, a1, a2, a3, a4, a5⟩ := h5 i (by omega)
      exact ⟨y, (ho i (by omega)).trans a1, List.mem_append_left _ a2, by rw [old y a2]; exact a3, by rw [old y a2]; exact a4, by rw [old y a2, eh]; exact hrT_bit a5⟩
  · obtain ⟨y, a1, a2, a3⟩ := h6 k hk
    refine ⟨y, a1, List.mem_append_left _ a2, ?_⟩
    rw [old y a2, eS, eB]
    exact a3
end GRI
/-! the circles as the law keeps them -/
def cmg (C : Nat → Nat) (x i : Nat) : Nat → Nat := fun n => if n < i ∧ x.testBit n = true then x else C n
theorem cmg_0 (C : Nat → Nat) (x : Nat) : cmg C x 0 = C := funext fun n => if_neg (fun h => absurd h.1 (Nat.not_lt_zero n))
theorem cmg_y {C : Nat → Nat} {x i : Nat} (h : x.testBit i = true) : va_up (cmg C x i) i x = cmg C x (i + 1) := funext fun n => by
  by_cases e : n = i
  · rw [e, va_up_self]
    exact (if_pos ⟨by omega, h⟩).symm
  · rw [va_up_ne _ _ e]
    unfold cmg
    by_cases c : n < i ∧ x.testBit n = true
    · rw [if_pos c, if_pos ⟨by omega, c.2⟩]
    · rw [if_neg c, if_neg (fun z => c ⟨by omega, z.2⟩)]
theorem cmg_n {C : Nat → Nat} {x i : Nat} (h : ¬ x.testBit i = true) : cmg C x i = cmg C x (i + 1) := funext fun n => by
  unfold cmg
  by_cases c : n < i ∧ x.testBit n = true
  · rw [if_pos c, if_pos ⟨by omega, c.2⟩]
  · refine (if_neg c).trans (if_neg (fun z => c ⟨?_, z.2⟩)).symm
    by_cases e : n = i
    · exact absurd (e ▸ z.2) h
    · omega
/-- two began to talk, or not -/
theorem cmg_talk {hr t C : Nat → Nat} {a b k y : Nat} (h : sumI hr t) (ha : a < 4) (hb : b < 4) (hab : a ≠ b) (hC : ∀ i, i < 4 → C i = cir t i) (hy : (if GA hr (cir t a ||| cir t b) = 0 then 1 else 0) = y) (hk : (k = 4 ∧ y ≠ 0) ∨ (k = 0 ∧ y = 0)) : ∀ i, i < 4 → cmg C (C a ||| C b) k i = cir (talT hr t a b) i := fun i hi => by
  rw [(sumI_talk h ha hb hab).2 i hi, hC a ha, hC b hb]
  unfold cmg
  rcases hk with ⟨rfl, hk⟩ | ⟨rfl, hk⟩
  · have hg : GA hr (cir t a ||| cir t b) = 0 := Classical.byContradiction fun z => hk (by rw [← hy, if_neg z])
    by_cases c : (cir t a ||| cir t b).testBit i = true
    · rw [if_pos ⟨hi, c⟩, if_pos ⟨hg, c⟩]
    · rw [if_neg (fun z => c z.2), if_neg (fun z => c z.2)]
      exact hC i hi
  · have hg : ¬ GA hr (cir t a ||| cir t b) = 0 := fun z => by
      rw [if_pos z, hk] at hy
      cases hy
    rw [if_neg (fun z => absurd z.1 (Nat.not_lt_zero i)), if_neg (fun z => hg z.1)]
    exact hC i hi
