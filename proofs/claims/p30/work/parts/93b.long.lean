/-! longs that stand for integers -/
def iL (z : Int) : Int64 := Int64.ofInt z
def lA (f : Nat → Int) : Nat → Int64 := fun k => iL (f k)
def zl (z : Int) : Prop := -4611686018427387904 < z ∧ z < 4611686018427387904
theorem iL_toInt {z : Int} (h : zl z) : (iL z).toInt = z := Int64.toInt_ofInt_of_le (by have := h.1; omega) (by have := h.2; omega)
theorem iL_mul (a b : Int) : iL a * iL b = iL (a * b) := (Int64.ofInt_mul a b).symm
theorem iL_sub (a b : Int) : iL a - iL b = iL (a - b) := (Int64.ofInt_sub a b).symm
theorem iL_add (a b : Int) : iL a + iL b = iL (a + b) := (Int64.ofInt_add a b).symm
theorem iL_0 {z : Int} (h : zl z) : iL z = iL 0 ↔ z = 0 := by
  constructor
  · intro e
    have h1 := iL_toInt h
    rw [e] at h1
    have h2 : (iL 0).toInt = 0 := iL_toInt ⟨by decide, by decide⟩
    omega
  · intro e; rw [e]
theorem iL_ge {z : Int} (h : zl z) : iL 0 ≤ iL z ↔ 0 ≤ z := by
  rw [Int64.le_iff_toInt_le, iL_toInt h, iL_toInt (⟨by decide, by decide⟩ : zl 0)]
theorem iL_rem {a : Int} (h : zl a) : iL a - iL a / iL 1000003 * iL 1000003 = iL (a.tmod 1000003) := by
  have hd : (iL 1000003).toInt = 1000003 := iL_toInt ⟨by decide, by decide⟩
  have hq : iL a / iL 1000003 = iL (a.tdiv 1000003) := by
    apply Int64.toInt_inj.mp
    have hs : zl (a.tdiv 1000003) := by
      obtain ⟨h1, h2⟩ := h
      by_cases z : 0 ≤ a
      · have g1 := Int.tdiv_nonneg z (show (0 : Int) ≤ 1000003 by decide)
        have g2 := Int.tdiv_le_self 1000003 z
        exact ⟨by omega, by omega⟩
      · have g1 := Int.tdiv_nonneg (show 0 ≤ -a by omega) (show (0 : Int) ≤ 1000003 by decide)
        have g2 := Int.tdiv_le_self 1000003 (show 0 ≤ -a by omega)
        have g3 : (-a).tdiv 1000003 = -(a.tdiv 1000003) := Int.neg_tdiv _ _
        exact ⟨by omega, by omega⟩
    rw [Int64.toInt_div_of_ne_right _ _ (by decide), iL_toInt h, hd, iL_toInt hs]
  rw [hq, iL_mul, iL_sub]
  have e := Int.tmod_add_mul_tdiv a 1000003
  exact congrArg iL (by rw [Int.mul_comm (a.tdiv 1000003) 1000003]; omega)
theorem msb_neg (x : Int64) : x.toBitVec.msb = decide (x.toInt < 0) := BitVec.msb_eq_toInt
theorem iL_xor {a : Int} (h : zl a) : iL 0 ≤ iL a ^^^ iL 1000003 ↔ 0 ≤ a := by
  rw [Int64.le_iff_toInt_le, iL_toInt (⟨by decide, by decide⟩ : zl 0)]
  have h1 := msb_neg (iL a ^^^ iL 1000003)
  have h2 := msb_neg (iL a)
  have h3 : (iL 1000003).toBitVec.msb = false := by decide
  rw [Int64.toBitVec_xor, BitVec.msb_xor, h3, Bool.xor_false, h2, iL_toInt h] at h1
  have h4 := decide_eq_decide.mp h1
  omega
theorem iL_of {n : Nat} (h : n < 2 ^ 31) : (nI n).toInt64 = iL n := by
  apply Int64.toInt_inj.mp
  rw [Int32.toInt_toInt64, nI_toInt h, iL_toInt ⟨by omega, by omega⟩]
/-- floorMod's answer -/
theorem fm_y {a : Int} (h : 0 ≤ a ∨ a.tmod 1000003 = 0) : a.tmod 1000003 = a % 1000003 := by
  rcases h with h | h
  · exact Int.tmod_eq_emod_of_nonneg h
  · rw [h]
    have e := Int.tmod_add_mul_tdiv a 1000003
    rw [h] at e
    exact (Int.emod_eq_zero_of_dvd ⟨a.tdiv 1000003, by omega⟩).symm
theorem fm_n {a : Int} (h : ¬ 0 ≤ a) (hz : a.tmod 1000003 ≠ 0) : a.tmod 1000003 + 1000003 = a % 1000003 := by
  have e := Int.tmod_add_mul_tdiv a 1000003
  have h1 : a.tmod 1000003 ≤ 0 := by
    have := Int.tmod_nonneg 1000003 (show 0 ≤ -a by omega)
    rw [Int.neg_tmod] at this
    omega
  have h2 : -1000003 < a.tmod 1000003 := Int.lt_tmod_of_pos a (by decide)
  have e2 := Int.mul_ediv_add_emod a 1000003
  have h3 := Int.emod_nonneg a (show (1000003 : Int) ≠ 0 by decide)
  have h4 := Int.emod_lt_of_pos a (show (0 : Int) < 1000003 by decide)
  omega
abbrev lF (G : gG) (D : Nat → Nat → Int) : Nat → va_E := fun a => .inl (G.2.2.1 2, 8, .inr (.inl (lA (D a))))
theorem va_upd_lA {f : Nat → Int} {k : Nat} {z : Int} : vp_updL (lA f) k (iL z) = lA (va_up f k z) := funext fun j => by
  show (if j = k then iL z else lA f j) = iL (va_up f k z j)
  unfold va_up
  split <;> rfl
section GL
variable {p : Program} {l : Launch} {e : Env} {R : Room} {s : State} {m : MethodId} {args : Array Value} {below : List Frame} {meth : Method} {c : Code} {H : Heap} {locs : List Loc} {cells slots : Nat} {Q : State → Prop}
variable {cc : ByteArray} {pc : Nat} {ls : Array Slot} {rest : List Value} {A : Nat → Prop} {ws X : va_W} {G : gG} {a tgt : Nat} {off : Int}
theorem gL_ne0 {z : Int} (hx : p.tables.exec = Jvm.exec) (hb : c.code = cc) (h1 : decode cc pc = .ok (.lcmp, 1)) (h2 : decode cc (pc + 1) = .ok (.ifCond .ne off, 3)) (ht : ((pc + 1 : Nat) : Int) + off = (tgt : Int)) (hz : zl z) (kt : z ≠ 0 → W p l e R s m args below meth c H locs cells slots Q (F0 m tgt ls rest)) (kf : z = 0 → W p l e R s m args below meth c H locs cells slots Q (F0 m (pc + 1 + 3) ls rest)) : W p l e R s m args below meth c H locs cells slots Q (F0 m pc ls (.long (iL 0) :: .long (iL z) :: rest)) :=
  W.lcmp hx hb h1 (lv_if_ne hx hb h2 ht (fun h => kt (fun q => h ((lg_cmp_eq _ _).mpr ((iL_0 hz).mpr q)))) (fun h => kf ((iL_0 hz).mp ((lg_cmp_eq _ _).mp h))))
theorem gL_eq0 {z : Int} (hx : p.tables.exec = Jvm.exec) (hb : c.code = cc) (h1 : decode cc pc = .ok (.lcmp, 1)) (h2 : decode cc (pc + 1) = .ok (.ifCond .eq off, 3)) (ht : ((pc + 1 : Nat) : Int) + off = (tgt : Int)) (hz : zl z) (kt : z = 0 → W p l e R s m args below meth c H locs cells slots Q (F0 m tgt ls rest)) (kf : z ≠ 0 → W p l e R s m args below meth c H locs cells slots Q (F0 m (pc + 1 + 3) ls rest)) : W p l e R s m args below meth c H locs cells slots Q (F0 m pc ls (.long (iL 0) :: .long (iL z) :: rest)) :=
  W.lcmp hx hb h1 (lv_if_eq hx hb h2 ht (fun h => kt ((iL_0 hz).mp ((lg_cmp_eq _ _).mp h))) (fun h => kf (fun q => h ((lg_cmp_eq _ _).mpr ((iL_0 hz).mpr q)))))
theorem gL_xge {z : Int} (hx : p.tables.exec = Jvm.exec) (hb : c.code = cc) (h1 : decode cc pc = .ok (.lcmp, 1)) (h2 : decode cc (pc + 1) = .ok (.ifCond .ge off, 3)) (ht : ((pc + 1 : Nat) : Int) + off = (tgt : Int)) (hz : zl z) (kt : 0 ≤ z → W p l e R s m args below meth c H locs cells slots Q (F0 m tgt ls rest)) (kf : ¬ 0 ≤ z → W p l e R s m args below meth c H locs cells slots Q (F0 m (pc + 1 + 3) ls rest)) : W p l e R s m args below meth c H locs cells slots Q (F0 m pc ls (.long (iL 0) :: .long (iL z ^^^ iL 1000003) :: rest)) :=
  W.lcmp hx hb h1 (lv_if_ge hx hb h2 ht (fun h => kt ((iL_xor hz).mp ((lg_cmp_ge _ _).mp h))) (fun h => kf (fun q => h ((lg_cmp_ge _ _).mpr ((iL_xor hz).mpr q)))))
/-- a long of a pooled row -/
theorem gL_ald {L : List Nat} {D : Nat → Nat → Int} {i : Nat} (hx : p.tables.exec = Jvm.exec) (hb : c.code = cc) (hK : va_K (gD G) vwCl (gT G) s) (hP : va_P (gD G) vwCl (X ++ va_pl L (lF G D)) H) (ha : a ∈ L) (hi : i < 8) (hdg : decode cc pc = .ok (.laload, 1)) (kk : W p l e R s m args below meth c H locs cells slots Q (F0 m (pc + 1) ls (.long (iL (D a i)) :: rest))) : W p l e R s m args below meth c H locs cells slots Q (F0 m pc ls (.int (nI i) :: .ref a :: rest)) := by
  obtain ⟨k9, hk9⟩ := va_pl_get (X := X) (f := lF G D) ha
  have hcl : (nI i).toNatClampNeg = i := nI_clamp (by omega)
  refine va_lald (f := lA (D a)) hx hb hK hP k9 2 hk9 rfl (vp_in_nI hi (by decide)) hdg ?_
  rw [hcl]
  exact kk
theorem gL_ast {L : List Nat} {D : Nat → Nat → Int} {i : Nat} {z : Int} (hx : p.tables.exec = Jvm.exec) (hb : c.code = cc) (hK : va_K (gD G) vwCl (gT G) s) (hP : va_P (gD G) vwCl (X ++ va_pl L (lF G D)) H) (hD : va_D A (X ++ va_pl L (lF G D))) (hS : va_S A s.heap H locs) (ha : a ∈ L) (hi : i < 8) (hdg : decode cc pc = .ok (.lastore, 1))
    (kk : ∀ (H1 : Heap) (locs1 : List Loc), va_P (gD G) vwCl (X ++ va_pl L (lF G (va_up D a (va_up (D a) i z)))) H1 → va_D A (X ++ va_pl L (lF G (va_up D a (va_up (D a) i z)))) → va_S A s.heap H1 locs1 → W p l e R s m args below meth c H1 locs1 cells slots Q (F0 m (pc + 1) ls rest)) : W p l e R s m args below meth c H locs cells slots Q (F0 m pc ls (.long (iL z) :: .int (nI i) :: .ref a :: rest)) := by
  obtain ⟨k9, hk9⟩ := va_pl_get (X := X) (f := lF G D) ha
  have hcl : (nI i).toNatClampNeg = i := nI_clamp (by omega)
  refine va_last (f := lA (D a)) hx hb hK hP hD hS k9 2 hk9 rfl (vp_in_nI hi (by decide)) hdg (fun H1 locs1 hP1 hD1 hS1 => ?_)
  have e : va_pl L (va_up (lF G D) a (.inl (G.2.2.1 2, 8, .inr (.inl (lA (va_up (D a) i z)))))) = va_pl L (lF G (va_up D a (va_up (D a) i z))) := va_pl_congr fun b => by
    by_cases e9 : b = a
    · rw [e9, va_up_self]
      show _ = (.inl (G.2.2.1 2, 8, .inr (.inl (lA (va_up D a (va_up (D a) i z) a)))) : va_E)
      rw [va_up_self]
    · rw [va_up_ne _ _ e9]
      show _ = (.inl (G.2.2.1 2, 8, .inr (.inl (lA (va_up D a (va_up (D a) i z) b)))) : va_E)
      rw [va_up_ne _ _ e9]
  rw [hcl, va_upd_lA, va_pl_set hD ha hk9, e] at hP1 hD1
  exact kk H1 locs1 hP1 hD1 hS1
/-- a row goes into the outer array -/
theorem gR_ast {L : List Nat} {F : Nat → va_E} {i n v q0 : Nat} {f : Nat → Option Nat} {x : vp_A} (hx : p.tables.exec = Jvm.exec) (hb : c.code = cc) (hE : gE G A s s.heap) (hK : va_K (gD G) vwCl (gT G) s) (hP : va_P (gD G) vwCl (X ++ va_pl L F) H) (hD : va_D A (X ++ va_pl L F)) (hS : va_S A s.heap H locs) (t0 t1 : Nat) {t : FieldType} {cA cR : ClassId} (ht0 : (gT G)[t0]? = some (cA, .array t)) (hZ : va_AOA t s) (hR : s.vm.findClass (FieldType.array t).toString = some cR) (ha : (X ++ va_pl L F)[q0]? = some (a, .inl (cA, n, .inr (.inr (.inr (.inr f)))))) (hv : v ∈ L) (hF : F v = .inl (cR, x)) (hi : i < n) (hn : n < 2 ^ 31) (hdg : decode cc pc = .ok (.aastore, 1))
    (kk : ∀ (H1 : Heap) (locs1 : List Loc), va_P (gD G) vwCl ((X ++ va_pl L F).set q0 (a, .inl (cA, n, .inr (.inr (.inr (.inr (va_up f i (some v)))))))) H1 → va_D A ((X ++ va_pl L F).set q0 (a, .inl (cA, n, .inr (.inr (.inr (.inr (va_up f i (some v)))))))) → va_S A s.heap H1 locs1 → W p l e R s m args below meth c H1 locs1 cells slots Q (F0 m (pc + 1) ls rest)) : W p l e R s m args below meth c H locs cells slots Q (F0 m pc ls (.ref v :: .int (nI i) :: .ref a :: rest)) := by
  have hcl : (nI i).toNatClampNeg = i := nI_clamp (by omega)
  obtain ⟨k9, hk9⟩ := va_pl_get (X := X) (f := F) hv
  rw [hF] at hk9
  have hcell : H[v]? = some (vp_cell cR x) := hP k9 _ hk9
  have hvm : (vp_cell cR x).vm = .none ∧ (vp_cell cR x).cls = cR := by
    obtain ⟨n, x⟩ := x
    rcases x with x | x | x | x | x <;> exact ⟨rfl, rfl⟩
  obtain ⟨comp, cA2, kA, k3, -, k1, k2, k4⟩ := arrayOverA_spec (va_AOA.use (v := args) hZ)
  cases ((hK.2 t0 _ ht0).2 : s.vm.findClass ("[" ++ (FieldType.array t).toString) = some cA).symm.trans k4
  cases k3.symm.trans hR
  obtain ⟨kE, hkE, -⟩ := Vm.findClass_spec k3
  refine W.aast hx hb (hP q0 _ ha) (fun q h => by cases h) (fun h => by cases h) k1 k2 rfl hkE ⟨nI_pos (by omega), by show _ < (arrV _ _ _).slots.size; rw [arrV_size, hcl]; exact hi⟩ hcell (fun q h => by rw [hvm.1] at h; cases h) (by rw [hvm.2]; exact hkE) (by rw [hvm.2]; exact va_asg _ _) rfl rfl hdg fun H1 e z oq => ?_
  refine kk H1 _ (hP.set hD ha ?_ oq) (hD.set ha) (hS.put z oq (hD.2 q0 _ ha))
  show H1[a]? = some (vp_cell _ _)
  rw [e, hcl, vp_cell_q, vp_cell_q, arrV_store]
  refine congrArg (fun g => some (arrV _ n g)) (funext fun q => ?_)
  by_cases hq : q = i
  · subst hq
    simp [updV, va_up, va_rf]
  · simp [updV, va_up, hq]
/-- new long[n][8]: the rows come as a pool -/
theorem gL_mna {n : Nat} {own : String} {index : Nat} (hx : p.tables.exec = Jvm.exec) (hb : c.code = cc) (hown : s.vm.findClass own = some m.cls) (hE : gE G A s s.heap) (hclink : (Cond.classLink own index "[[J").before args s = true) (harr : (Cond.arrayClass .long).before args s = true) (hK : va_K (gD G) vwCl (gT G) s) (hP : va_P (gD G) vwCl X H) (hD : va_D A X) (hS : va_S A s.heap H locs) (hA : ∀ q, s.heap.size ≤ q → A q) (hn : n ≤ 50) (hcells : cells + 51 ≤ R.cells) (hslots : slots + 450 ≤ R.slots) (hdg : decode cc pc = .ok (.multianewarray index 2, 4))
    (kk : ∀ (q : Nat) (r : Nat → Nat) (H1 : Heap), (∀ i j, i < n → j < n → r i = r j → i = j) → va_P (gD G) vwCl ((X ++ [(q, .inl (G.2.2.1 3, n, .inr (.inr (.inr (.inr (fun i => if i < n then some (r i) else none))))))]) ++ va_pl ((List.range n).map r) (lF G (fun _ _ => 0))) H1 → va_D A ((X ++ [(q, .inl (G.2.2.1 3, n, .inr (.inr (.inr (.inr (fun i => if i < n then some (r i) else none))))))]) ++ va_pl ((List.range n).map r) (lF G (fun _ _ => 0))) → va_S A s.heap H1 locs →
      W p l e R s m args below meth c H1 locs (cells + 51) (slots + 450) Q (F0 m (pc + 4) ls (.ref q :: rest))) : W p l e R s m args below meth c H locs cells slots Q (F0 m pc ls (.int (nI 8) :: .int (nI n) :: rest)) := by
  have hcy : s.vm.findClass (FieldType.array .long).toString = some (G.2.2.1 2) := (hK.2 2 _ rfl).2
  have e0 : X ++ va_pl [] (lF G (fun _ _ => 0)) = X := List.append_nil X
  refine va_mna (X := X) (L := []) (f := lF G (fun _ _ => 0)) (N' := n) (K' := 8) (z := (8, .inr (.inl (lA (fun _ => 0))))) hx hb hown hclink hE.2.1.1.2.1 harr hcy hK (by rw [e0]; exact hP) (by rw [e0]; exact hD) hS hA (nI_pos (by omega)) (by decide) (nI_clamp (by omega)) rfl (by omega) (by decide) (by decide) rfl rfl (by omega) (by omega) (fun c => arrV_new c 8 _) hdg (fun q r cA H1 hr _ hK1 hP1 hD1 hS1 => ?_)
  have h0 : s.vm.findClass ("[" ++ (FieldType.array .long).toString) = some (G.2.2.1 3) := (hK.2 3 _ rfl).2
  have h1 : s.vm.findClass ("[" ++ (FieldType.array .long).toString) = some cA := (hK1.2 5 _ rfl).2
  cases Option.some.inj (h0.symm.trans h1)
  have e2 : va_pl ([] ++ (List.range n).map r) (vr_up (lF G (fun _ _ => 0)) ((List.range n).map r) (.inl (G.2.2.1 2, 8, .inr (.inl (lA (fun _ => 0)))))) = va_pl ((List.range n).map r) (lF G (fun _ _ => 0)) := by
    rw [List.nil_append]
    exact List.map_congr_left fun b hb => congrArg (Prod.mk b) (vr_up_in hb)
  rw [e2] at hP1 hD1
  exact W.widen (k := cells + 51) (n := slots + 450) (by omega) (by omega) (kk q r H1 hr hP1 hD1 hS1)
end GL
theorem bvI (x k : Nat) : ((x / 2 ^ k &&& 1 : Nat) : Int) = bv x k := by
  rw [n_bit1]
  exact rst0_bv x k
theorem mulq {x y : Int} (hx : 0 ≤ x ∧ x < 1000003) (hy : 0 ≤ y ∧ y < 1000003) : 0 ≤ x * y ∧ x * y ≤ 1000004000004 := by
  have h : x.natAbs * y.natAbs ≤ 1000002 * 1000002 := Nat.mul_le_mul (by omega) (by omega)
  rw [← Int.natAbs_mul] at h
  have h2 := Int.mul_nonneg hx.1 hy.1
  omega
abbrev foA (n : Nat) (A : Nat → Nat) : Nat → Option Nat := fun i => if i < n then some (A i) else none
theorem foU {n p x : Nat} {A : Nat → Nat} (hp : p < n) : va_up (foA n A) p (some x) = foA n (va_up A p x) := funext fun i => by
  by_cases e : i = p
  · rw [e, va_up_self]
    show some x = if p < n then some (va_up A p x p) else none
    rw [if_pos hp, va_up_self]
  · rw [va_up_ne _ _ e]
    show (if i < n then some (A i) else none) = if i < n then some (va_up A p x i) else none
    rw [va_up_ne _ _ e]
theorem RkI_0' {S : (Nat → Int) → Prop} {n : Nat} {M : Nat → Nat → Int} (h1 : ∀ i, i < n → ∃ u, S u ∧ ∀ k, k < 8 → u k = M i k) (h2 : ∀ v, S v → ∃ i, i < n ∧ ∀ k, k < 8 → M i k = v k) (hb : ∀ i, i < n → ∀ k, k < 8 → 0 ≤ M i k ∧ M i k < 1000003) : RkI S n M 0 0 :=
  ⟨⟨Nat.le_refl 0, Nat.zero_le n⟩, fun i hi => by
    obtain ⟨u, hu, e⟩ := h1 i hi
    exact (Sp_cl _ S).eq e (Sp.of hu), fun _ _ _ k hk => absurd hk (Nat.not_lt_zero k), rfl, fun v hv _ => hv.mono (fun u hu => by
    obtain ⟨i, hi, e⟩ := h2 u hu
    exact (Sp_cl _ _).eq e (Sp.of ⟨i, Nat.zero_le i, hi, rfl⟩)), hb⟩
section GK
variable {p : Program} {l : Launch} {e : Env} {R : Room} {s : State} {m : MethodId} {args : Array Value} {below : List Frame} {meth : Method} {c : Code} {H : Heap} {locs : List Loc} {cells slots : Nat} {Q : State → Prop}
variable {S : Type} {G : gG} {A : Nat → Prop} {ws wc wr : va_W} {post : S → Prop} {rv : S → Option Value} {w1 : S → va_W} {pc : Nat} {ls : Array Slot} {st0 rest : List Value} {out : va_W → va_W}
variable {y : MethodName} {bytes cc : ByteArray} {maxL nL n index : Nat} {ret : Option FieldType} {wds Ts : List Cond} {rm : Room} {own host C : String} {b : Nat} {As : List Value} {lv : List (Nat × Value)}
/-- an instance method, its object outside of the world -/
theorem gCVK (hE : gE G A s s.heap) (hM : gMet l G y wds rm (.ref b :: As) wc post rv w1) (cw : CallW R s args own C index y bytes maxL ret wds rm rm.cells rm.slots n) (F : CallFix p m c cc nL s args Ts own) (hK : va_K (gD G) vwCl (gT G) s) (hP : va_P (gD G) vwCl ws H) (hD : va_D A ws) (hS : va_S A s.heap H locs) (hA : ∀ q, s.heap.size ≤ q → A q) (hJ : gJn G A ws wc out) (hrc : ∃ cell : Cell, H[b]? = some cell ∧ cell.vm.isStatics = false ∧ s.vm.findClass C = some cell.cls) (hlen : As.length = n) (hl : lv_has ls nL lv) (hst : st0 = As.reverse ++ .ref b :: rest) (hroom : (rest.map fun v => v.category).sum ≤ 8) (hdg : decode cc pc = .ok (.invokevirtual index, 3)) (hf : cells + rm.cells ≤ R.cells ∧ slots + rm.slots ≤ R.slots)
    (kk : ∀ (u : S) (H1 : Heap) (locs1 : List Loc), post u → va_P (gD G) vwCl (out (w1 u)) H1 → va_D A (out (w1 u)) → va_S A s.heap H1 locs1 → W p l e R s m args below meth c H1 locs1 (cells + rm.cells) (slots + rm.slots) Q (F0 m (pc + 3) ls ((rv u).toList ++ rest))) : W p l e R s m args below meth c H locs cells slots Q (F0 m pc ls st0) :=
  gCallJ (va_runV F (hM H.size) cw ⟨gPc.blind, hrc, fun U hU hW => gJ_pre hJ hE hK hP hD hS hA hU hW⟩ rfl hlen hl.1 hst (lv_room hroom) hdg hf) hJ hP hD hS hA kk
end GK
section GFM
variable {p : Program} {l : Launch} {e : Env} {R : Room} {s : State} {m : MethodId} {args : Array Value} {below : List Frame} {meth : Method} {c : Code} {H : Heap} {locs : List Loc} {cells slots : Nat} {Q : State → Prop}
variable {cc : ByteArray} {pc : Nat} {ls : Array Slot} {rest : List Value}
theorem fm_val {z : Int} (h : zl z) : Jvm.Free.JP.Math_floorMod_JJ.val (iL z) (iL 1000003) = iL (z % 1000003) := by
  unfold Jvm.Free.JP.Math_floorMod_JJ.val
  rw [iL_rem h]
  have hzt : zl (z.tmod 1000003) := ⟨by have := Int.lt_tmod_of_pos z (show (0 : Int) < 1000003 by decide); omega, by have := Int.tmod_lt_of_pos z (show (0 : Int) < 1000003 by decide); omega⟩
  have h0 : (0 : Int64) = iL 0 := rfl
  by_cases h1 : 0 ≤ z
  · have h2 : ¬ (iL z ^^^ iL 1000003) < 0 := Int64.not_lt.mpr ((iL_xor h).mpr h1)
    rw [if_neg h2, fm_y (Or.inl h1)]
  · have h2 : (iL z ^^^ iL 1000003) < 0 := Int64.not_le.mp (fun q => h1 ((iL_xor h).mp q))
    rw [if_pos h2, h0]
    by_cases h3 : z.tmod 1000003 = 0
    · rw [if_pos ((iL_0 hzt).mpr h3), fm_y (Or.inr h3)]
    · rw [if_neg (fun q => h3 ((iL_0 hzt).mp q)), iL_add, fm_n h1 h3]
theorem gL_fm {z : Int} {own : String} {index : Nat} (hx : p.tables.exec = Jvm.exec) (hb : c.code = cc) (hml : c.maxLocals = ls.size) (hown : s.vm.findClass own = some m.cls) (hlink : (Cond.methodLink own index yJ9_floorMod_f86c9).before args s = true) (hstat : (Cond.static yJ9_floorMod_f86c9).before args s = true) (hini : (Cond.initialized RJ9).before args s = true) (hcode : (Cond.code yJ9_floorMod_f86c9 cJ9_floorMod_f86c9 6 (some .long)).before args s = true) (hframes : 1 ≤ R.frames) (hlocals : (rest.map fun v => v.category).sum + 17 ≤ R.locals) (hc : cells ≤ R.cells) (hs : slots ≤ R.slots) (hz : zl z) (hdg : decode cc pc = .ok (.invokestatic index, 3))
    (kk : W p l e R s m args below meth c H locs cells slots Q (F0 m (pc + 3) ls (.long (iL (z % 1000003)) :: rest))) : W p l e R s m args below meth c H locs cells slots Q (F0 m pc ls (.long (iL 1000003) :: .long (iL z) :: rest)) := by
  intro T hT X
  obtain ⟨v, T', X', E3, g3⟩ := X.callS hx (Jvm.Free.JP.Math_floorMod_JJ.law l (iL z) (iL 1000003)) hown (own := own) (index := index) (fun w hw => by
    rcases List.mem_cons.mp hw with rfl | hw
    · exact hlink
    · rcases List.mem_cons.mp hw with rfl | hw
      · exact hstat
      · cases hw) (Jvm.Free.XT.unparts hcode (fun w hw => by
    rcases List.mem_cons.mp hw with rfl | hw
    · exact hini
    · cases hw)) (W := (rest.map fun v => v.category).sum) (by omega) (by omega) hc hs (g := F0 m pc ls (.long (iL 1000003) :: .long (iL z) :: rest)) rfl (by rw [hml]) (Steps.refl _) (argsL := [.long (iL z), .long (iL 1000003)]) (rest := rest) rfl rfl (by show 2 * 0 + _ ≤ _; omega) (by rw [hb]; exact hdg) ⟨rfl, show iL 1000003 ≠ 0 by decide⟩
  obtain ⟨rfl, q3⟩ := E3
  rw [fm_val hz] at g3
  rw [List.append_nil] at X'
  obtain ⟨t, a1, b1⟩ := kk T' (q3.trans hT) X'
  exact ⟨t, g3.trans a1, b1⟩
end GFM
