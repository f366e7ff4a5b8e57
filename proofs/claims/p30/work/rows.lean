section
-- ===== PART A: goes FIRST, ahead of the names: the tables' words, and 'selects' of the private methods out of them =====
/-- a private method of a class that the tables say can be made, by its rows of tables_1 -/
def lw_okq (q : MethodName × Nat) : Prop := (q.1.cls ≠ "java/lang/invoke/MethodHandle" ∧ q.1.cls ≠ "java/lang/invoke/VarHandle") ∧ Cond.instantiable q.1.cls q.2 ∈ tables_1 ∧ Cond.privateMethod q.1 ∈ tables_1 ∧ Cond.instanceMethod q.1 ∈ tables_1
theorem lw_p0 : lw_okq (⟨"java/lang/Throwable", "fillInStackTrace", "(I)Ljava/lang/Throwable;"⟩, 6) := ⟨⟨by decide +kernel, by decide +kernel⟩, List.mem_of_getElem? (i := 231) (by decide +kernel), List.mem_of_getElem? (i := 229) (by decide +kernel), List.mem_of_getElem? (i := 230) (by decide +kernel)⟩
theorem lw_p1 : lw_okq (⟨"Degreewall", "needSource", "(I)V"⟩, 5) := ⟨⟨by decide +kernel, by decide +kernel⟩, List.mem_of_getElem? (i := 28) (by decide +kernel), List.mem_of_getElem? (i := 269) (by decide +kernel), List.mem_of_getElem? (i := 270) (by decide +kernel)⟩
theorem lw_p2 : lw_okq (⟨"Degreewall$Kinship", "findBarred", "()V"⟩, 4) := ⟨⟨by decide +kernel, by decide +kernel⟩, List.mem_of_getElem? (i := 36) (by decide +kernel), List.mem_of_getElem? (i := 321) (by decide +kernel), List.mem_of_getElem? (i := 322) (by decide +kernel)⟩
theorem lw_p3 : lw_okq (⟨"Degreewall$Links", "widened", "(I)I"⟩, 1) := ⟨⟨by decide +kernel, by decide +kernel⟩, List.mem_of_getElem? (i := 42) (by decide +kernel), List.mem_of_getElem? (i := 329) (by decide +kernel), List.mem_of_getElem? (i := 330) (by decide +kernel)⟩
theorem lw_p4 : lw_okq (⟨"Degreewall", "applyBar", "()I"⟩, 5) := ⟨⟨by decide +kernel, by decide +kernel⟩, List.mem_of_getElem? (i := 28) (by decide +kernel), List.mem_of_getElem? (i := 336) (by decide +kernel), List.mem_of_getElem? (i := 337) (by decide +kernel)⟩
theorem lw_p5 : lw_okq (⟨"Degreewall$Permits", "inForce", "()I"⟩, 8) := ⟨⟨by decide +kernel, by decide +kernel⟩, List.mem_of_getElem? (i := 82) (by decide +kernel), List.mem_of_getElem? (i := 344) (by decide +kernel), List.mem_of_getElem? (i := 345) (by decide +kernel)⟩
theorem lw_p6 : lw_okq (⟨"Degreewall$Permits", "leaksBy", "(ILDegreewall$Kinship;)I"⟩, 8) := ⟨⟨by decide +kernel, by decide +kernel⟩, List.mem_of_getElem? (i := 82) (by decide +kernel), List.mem_of_getElem? (i := 359) (by decide +kernel), List.mem_of_getElem? (i := 360) (by decide +kernel)⟩
theorem lw_p7 : lw_okq (⟨"Degreewall$Permits", "layOut", "(I)V"⟩, 8) := ⟨⟨by decide +kernel, by decide +kernel⟩, List.mem_of_getElem? (i := 82) (by decide +kernel), List.mem_of_getElem? (i := 363) (by decide +kernel), List.mem_of_getElem? (i := 364) (by decide +kernel)⟩
theorem lw_p8 : lw_okq (⟨"Degreewall", "lineOf", "(I)I"⟩, 5) := ⟨⟨by decide +kernel, by decide +kernel⟩, List.mem_of_getElem? (i := 28) (by decide +kernel), List.mem_of_getElem? (i := 405) (by decide +kernel), List.mem_of_getElem? (i := 406) (by decide +kernel)⟩
theorem lw_p9 : lw_okq (⟨"Degreewall", "needAsker", "(I)V"⟩, 5) := ⟨⟨by decide +kernel, by decide +kernel⟩, List.mem_of_getElem? (i := 28) (by decide +kernel), List.mem_of_getElem? (i := 486) (by decide +kernel), List.mem_of_getElem? (i := 487) (by decide +kernel)⟩
theorem lw_p10 : lw_okq (⟨"Degreewall", "needSomePeople", "(I)V"⟩, 5) := ⟨⟨by decide +kernel, by decide +kernel⟩, List.mem_of_getElem? (i := 28) (by decide +kernel), List.mem_of_getElem? (i := 495) (by decide +kernel), List.mem_of_getElem? (i := 496) (by decide +kernel)⟩
theorem lw_p11 : lw_okq (⟨"Degreewall", "needPeople", "(I)V"⟩, 5) := ⟨⟨by decide +kernel, by decide +kernel⟩, List.mem_of_getElem? (i := 28) (by decide +kernel), List.mem_of_getElem? (i := 499) (by decide +kernel), List.mem_of_getElem? (i := 500) (by decide +kernel)⟩
theorem lw_p12 : lw_okq (⟨"Degreewall$Sums", "fillSpan", "(I)V"⟩, 9) := ⟨⟨by decide +kernel, by decide +kernel⟩, List.mem_of_getElem? (i := 115) (by decide +kernel), List.mem_of_getElem? (i := 527) (by decide +kernel), List.mem_of_getElem? (i := 528) (by decide +kernel)⟩
theorem lw_p13 : lw_okq (⟨"Degreewall$Span", "firstOfRest", "(I)I"⟩, 3) := ⟨⟨by decide +kernel, by decide +kernel⟩, List.mem_of_getElem? (i := 123) (by decide +kernel), List.mem_of_getElem? (i := 539) (by decide +kernel), List.mem_of_getElem? (i := 540) (by decide +kernel)⟩
theorem lw_p14 : lw_okq (⟨"Degreewall$Span", "clearAt", "([II)V"⟩, 3) := ⟨⟨by decide +kernel, by decide +kernel⟩, List.mem_of_getElem? (i := 123) (by decide +kernel), List.mem_of_getElem? (i := 544) (by decide +kernel), List.mem_of_getElem? (i := 545) (by decide +kernel)⟩
theorem lw_p15 : lw_okq (⟨"Degreewall$Sums", "sumOf", "(I)I"⟩, 9) := ⟨⟨by decide +kernel, by decide +kernel⟩, List.mem_of_getElem? (i := 115) (by decide +kernel), List.mem_of_getElem? (i := 555) (by decide +kernel), List.mem_of_getElem? (i := 556) (by decide +kernel)⟩
def lw_privs_1 : List (MethodName × Nat) := [(⟨"java/lang/Throwable", "fillInStackTrace", "(I)Ljava/lang/Throwable;"⟩, 6), (⟨"Degreewall", "needSource", "(I)V"⟩, 5), (⟨"Degreewall$Kinship", "findBarred", "()V"⟩, 4), (⟨"Degreewall$Links", "widened", "(I)I"⟩, 1), (⟨"Degreewall", "applyBar", "()I"⟩, 5), (⟨"Degreewall$Permits", "inForce", "()I"⟩, 8), (⟨"Degreewall$Permits", "leaksBy", "(ILDegreewall$Kinship;)I"⟩, 8), (⟨"Degreewall$Permits", "layOut", "(I)V"⟩, 8), (⟨"Degreewall", "lineOf", "(I)I"⟩, 5), (⟨"Degreewall", "needAsker", "(I)V"⟩, 5), (⟨"Degreewall", "needSomePeople", "(I)V"⟩, 5), (⟨"Degreewall", "needPeople", "(I)V"⟩, 5), (⟨"Degreewall$Sums", "fillSpan", "(I)V"⟩, 9), (⟨"Degreewall$Span", "firstOfRest", "(I)I"⟩, 3), (⟨"Degreewall$Span", "clearAt", "([II)V"⟩, 3), (⟨"Degreewall$Sums", "sumOf", "(I)I"⟩, 9)]
theorem lw_r1 : ∀ q ∈ lw_privs_1, lw_okq q := List.forall_mem_cons.mpr ⟨lw_p0, List.forall_mem_cons.mpr ⟨lw_p1, List.forall_mem_cons.mpr ⟨lw_p2, List.forall_mem_cons.mpr ⟨lw_p3, List.forall_mem_cons.mpr ⟨lw_p4, List.forall_mem_cons.mpr ⟨lw_p5, List.forall_mem_cons.mpr ⟨lw_p6, List.forall_mem_cons.mpr ⟨lw_p7, List.forall_mem_cons.mpr ⟨lw_p8, List.forall_mem_cons.mpr ⟨lw_p9, List.forall_mem_cons.mpr ⟨lw_p10, List.forall_mem_cons.mpr ⟨lw_p11, List.forall_mem_cons.mpr ⟨lw_p12, List.forall_mem_cons.mpr ⟨lw_p13, List.forall_mem_cons.mpr ⟨lw_p14, List.forall_mem_cons.mpr ⟨lw_p15, fun _ h => absurd h List.not_mem_nil⟩⟩⟩⟩⟩⟩⟩⟩⟩⟩⟩⟩⟩⟩⟩⟩
theorem lw_p16 : lw_okq (⟨"Degreewall$Sums", "spanHoldsAllTold", "(I)Z"⟩, 9) := ⟨⟨by decide +kernel, by decide +kernel⟩, List.mem_of_getElem? (i := 115) (by decide +kernel), List.mem_of_getElem? (i := 655) (by decide +kernel), List.mem_of_getElem? (i := 656) (by decide +kernel)⟩
theorem lw_p17 : lw_okq (⟨"java/util/ArrayList", "add", "(Ljava/lang/Object;[Ljava/lang/Object;I)V"⟩, 3) := ⟨⟨by decide +kernel, by decide +kernel⟩, List.mem_of_getElem? (i := 753) (by decide +kernel), List.mem_of_getElem? (i := 842) (by decide +kernel), List.mem_of_getElem? (i := 843) (by decide +kernel)⟩
theorem lw_p18 : lw_okq (⟨"java/util/ArrayList", "grow", "()[Ljava/lang/Object;"⟩, 3) := ⟨⟨by decide +kernel, by decide +kernel⟩, List.mem_of_getElem? (i := 753) (by decide +kernel), List.mem_of_getElem? (i := 846) (by decide +kernel), List.mem_of_getElem? (i := 847) (by decide +kernel)⟩
theorem lw_p19 : lw_okq (⟨"java/util/ArrayList", "grow", "(I)[Ljava/lang/Object;"⟩, 3) := ⟨⟨by decide +kernel, by decide +kernel⟩, List.mem_of_getElem? (i := 753) (by decide +kernel), List.mem_of_getElem? (i := 850) (by decide +kernel), List.mem_of_getElem? (i := 851) (by decide +kernel)⟩
def lw_privs_2 : List (MethodName × Nat) := [(⟨"Degreewall$Sums", "spanHoldsAllTold", "(I)Z"⟩, 9), (⟨"java/util/ArrayList", "add", "(Ljava/lang/Object;[Ljava/lang/Object;I)V"⟩, 3), (⟨"java/util/ArrayList", "grow", "()[Ljava/lang/Object;"⟩, 3), (⟨"java/util/ArrayList", "grow", "(I)[Ljava/lang/Object;"⟩, 3)]
theorem lw_r2 : ∀ q ∈ lw_privs_2, lw_okq q := List.forall_mem_cons.mpr ⟨lw_p16, List.forall_mem_cons.mpr ⟨lw_p17, List.forall_mem_cons.mpr ⟨lw_p18, List.forall_mem_cons.mpr ⟨lw_p19, fun _ h => absurd h List.not_mem_nil⟩⟩⟩⟩
def lw_privs : List (MethodName × Nat) := lw_privs_1 ++ (lw_privs_2)
def lw_tbl : List Cond := k2_sels lw_privs ++ tables_1
theorem lw_privs_ok : ∀ q ∈ lw_privs, lw_okq q := by
  show ∀ q ∈ lw_privs_1 ++ (lw_privs_2), lw_okq q
  exact List.forall_mem_append.mpr ⟨lw_r1, lw_r2⟩
-- ===== end of PART A; then your names; then what follows =====
/-! ===== BEGIN words of one list among another's, by their places ===== -/
theorem goodIn_r {big : List Cond} (ws : List Cond) (ps : List Nat) (hp : ws = ps.filterMap (fun i => big[i]?)) (h : ws.all goodWord = true) : GoodIn big ws := by
  intro w hw
  have h1 := List.all_eq_true.mp h w hw
  rw [hp] at hw
  obtain ⟨i, -, hi⟩ := List.mem_filterMap.mp hw
  have hm : w ∈ big := by first | exact List.mem_of_getElem? hi | exact List.getElem?_mem hi
  exact ⟨hm, good_of_word h1⟩
theorem goodIn_app {big a b : List Cond} (ha : GoodIn big a) (hb : GoodIn big b) : GoodIn big (a ++ b) := fun w h => (List.mem_append.mp h).elim (ha w) (hb w)
theorem goodIn_ca {big a b : List Cond} {c : Cond} (ha : GoodIn big (c :: a)) (hb : GoodIn big b) : GoodIn big (c :: (a ++ b)) := fun w h => (List.mem_cons.mp h).elim (fun e => ha w (List.mem_cons.mpr (Or.inl e))) (fun h => (List.mem_append.mp h).elim (fun h => ha w (List.mem_cons.mpr (Or.inr h))) (hb w))
theorem goodIn_sub {big ws : List Cond} (hm : ∀ w ∈ ws, w ∈ big) (h : ws.all goodWord = true) : GoodIn big ws := fun w hw => ⟨hm w hw, good_of_word (List.all_eq_true.mp h w hw)⟩
/-! ===== END ===== -/

/-! ===== BEGIN new T[n][m]: the outer array a place, the inner ones among the pooled ===== -/
/-- f, but v at every address of l -/
def vr_up {α : Type} (f : Nat → α) (l : List Nat) (v : α) : Nat → α := fun a => if a ∈ l then v else f a
theorem vr_up_in {α : Type} {f : Nat → α} {l : List Nat} {v : α} {a : Nat} (h : a ∈ l) : vr_up f l v a = v := if_pos h
theorem vr_up_ne {α : Type} {f : Nat → α} {l : List Nat} {v : α} {a : Nat} (h : a ∉ l) : vr_up f l v a = f a := if_neg h
theorem vr_rows {L l : List Nat} {f : Nat → va_E} {e : va_E} (h : ∀ a, a ∈ l → a ∉ L) : va_pl L f ++ l.map (fun a => (a, e)) = va_pl (L ++ l) (vr_up f l e) := by
  unfold va_pl
  rw [List.map_append]
  congr 1
  · apply List.map_congr_left
    intro a ha
    rw [vr_up_ne (fun q => h a q ha)]
  · apply List.map_congr_left
    intro a ha
    rw [vr_up_in ha]
theorem vr_lay {X rows : va_W} {x : Nat × va_E} {pl : va_W} {D : va_G} {cl : List vw_C} {H : Heap} (hP : va_P D cl (((X ++ pl) ++ [x]) ++ rows) H) : va_P D cl ((X ++ [x]) ++ (pl ++ rows)) H := by
  rw [List.append_assoc (X ++ pl)] at hP
  have h := va_P.swap hP
  rw [← List.append_assoc X] at h
  have h2 := va_P.swap h
  rw [List.append_assoc (X ++ [x])] at h2
  exact h2
theorem vr_layD {X rows : va_W} {x : Nat × va_E} {pl : va_W} {A : Nat → Prop} (hD : va_D A (((X ++ pl) ++ [x]) ++ rows)) : va_D A ((X ++ [x]) ++ (pl ++ rows)) := by
  rw [List.append_assoc (X ++ pl)] at hD
  have h := va_D.swap hD
  rw [← List.append_assoc X] at h
  have h2 := va_D.swap h
  rw [List.append_assoc (X ++ [x])] at h2
  exact h2
theorem vr_outer (c : ClassId) (N h0 : Nat) : ∀ i : Nat, Jvm.Free.Multi.outerC c N h0 i = arrV c N (fun j => va_rf (if j < i then some (h0 + 1 + j) else none))
  | 0 => by
    show ({ cls := c, slots := Array.replicate N .null, vm := .none } : Cell) = _
    rw [arrV_new]
    refine congrArg (arrV c N) (funext fun j => ?_)
    simp [va_rf]
  | i + 1 => by
    show (Jvm.Free.Multi.outerC c N h0 i).setSlot i (.ref (h0 + 1 + i)) = _
    rw [vr_outer c N h0 i, arrV_store]
    refine congrArg (arrV c N) (funext fun j => ?_)
    by_cases e : j = i
    · subst e
      simp [updV, va_rf]
    · by_cases h : j < i
      · simp [updV, e, h, Nat.lt_succ_of_lt h]
      · simp [updV, e, h, show ¬ j < i + 1 by omega]
def va_AOA (t : FieldType) (U : State) : Prop := (Cond.arrayOver (.array t)).before #[] U = true
theorem va_AOA.use {t : FieldType} {v : Array Value} {U : State} (h : va_AOA t U) : (Cond.arrayOver (.array t)).before v U = true := h
section VGM
variable {p : Program} {l : Launch} {e : Env} {R : Room} {s : State} {m : MethodId} {args : Array Value} {below : List Frame} {meth : Method} {c : Code} {H : Heap} {locs : List Loc} {cells slots : Nat} {Q : State → Prop}
variable {cc : ByteArray} {pc : Nat} {ls : Array Slot} {rest : List Value} {D : va_G} {cl : List vw_C} {A : Nat → Prop} {a : Nat} {tys : List (ClassId × FieldType)} {ws : va_W} {H0 : Heap}
theorem va_mna {X : va_W} {L : List Nat} {f : Nat → va_E} {cc : ByteArray} (hexec : p.tables.exec = Jvm.exec) (hb : c.code = cc) {own : String} {index : Nat} {ty : FieldType} {cy : ClassId} (hown : s.vm.findClass own = some m.cls) (hclink : (Cond.classLink own index ("[" ++ (FieldType.array ty).toString)).before args s = true) (hover : va_AOA ty s) (harr : (Cond.arrayClass ty).before args s = true) (hcy : s.vm.findClass (FieldType.array ty).toString = some cy)
    (hK : va_K D cl tys s) (hP : va_P D cl (X ++ va_pl L f) H) (hD : va_D A (X ++ va_pl L f)) (hS : va_S A H0 H locs) (hA : ∀ q, H0.size ≤ q → A q) {n k : Int32} {N' K' : Nat} {z : vp_A} (hn : ¬ n < 0) (hk : ¬ k < 0) (hN : n.toNatClampNeg = N') (hM : k.toNatClampNeg = K')
    (hb1 : N' * 4 ≤ 536870912) (hb2 : K' * componentBytes ty ≤ 536870912) (hb3 : K' ≤ 536870912) (hdf : fits ty (defaultValue ty) = true) (hdd : (defaultValue ty).isDefault = true) (hcells : cells + (1 + N') ≤ R.cells) (hslots : slots + (N' + N' * K') ≤ R.slots) (hz : ∀ c : ClassId, Jvm.Free.Multi.innerC c K' (defaultValue ty) = vp_cell c z) (hdg : decode cc pc = .ok (.multianewarray index 2, 4))
    (kk : ∀ (q : Nat) (r : Nat → Nat) (cA : ClassId) (H1 : Heap), (∀ i j : Nat, i < N' → j < N' → r i = r j → i = j) → (∀ i : Nat, i < N' → r i ∉ L) → va_K D cl (tys ++ [(cA, .array ty)]) s →
      va_P D cl ((X ++ [(q, .inl (cA, N', .inr (.inr (.inr (.inr (fun i => if i < N' then some (r i) else none))))))]) ++ va_pl (L ++ (List.range N').map r) (vr_up f ((List.range N').map r) (.inl (cy, z)))) H1 → va_D A ((X ++ [(q, .inl (cA, N', .inr (.inr (.inr (.inr (fun i => if i < N' then some (r i) else none))))))]) ++ va_pl (L ++ (List.range N').map r) (vr_up f ((List.range N').map r) (.inl (cy, z)))) → va_S A H0 H1 locs →
      W p l e R s m args below meth c H1 locs (cells + 1 + N') (slots + N' + N' * K') Q (F0 m (pc + 4) ls (.ref q :: rest))) : W p l e R s m args below meth c H locs cells slots Q (F0 m pc ls (.int k :: .int n :: rest)) := by
  subst hN
  subst hM
  intro T hT Xs
  obtain ⟨vm₁, cA, comp, -, fA, fC, hO, -, X', step⟩ := Xs.multianewarray2F hexec hown hclink (va_AOA.use hover) harr (g := F0 m pc ls (.int k :: .int n :: rest)) rfl (by rw [hb]; exact hdg) rfl hn hk hb1 hb2 hb3 hdf hdd hcells hslots
  have ec : some cy = some comp := hcy.symm.trans fC
  cases ec
  generalize hF : Jvm.Free.Multi.fill (T.setVm vm₁) cA cy n.toNatClampNeg k.toNatClampNeg (defaultValue ty) n.toNatClampNeg = F at X' step
  have hTh : (T.setVm vm₁).heap = H := hT
  obtain ⟨f1, f2, -, -⟩ := Jvm.Free.Multi.fill_facts (T.setVm vm₁) cA cy n.toNatClampNeg k.toNatClampNeg (defaultValue ty) n.toNatClampNeg
  rw [hF, hTh] at f1 f2
  have hold : ∀ x : Nat, x < H.size → F.heap[x]? = H[x]? := fun x hx => by
    have := Jvm.Free.Multi.fill_old (T.setVm vm₁) cA cy n.toNatClampNeg k.toNatClampNeg (defaultValue ty) (a := x) (by rw [hTh]; exact hx) n.toNatClampNeg
    rw [hF, hTh] at this
    exact this
  have hrow : ∀ j : Nat, j < n.toNatClampNeg → F.heap[H.size + 1 + j]? = some (vp_cell cy z) := fun j hj => by
    have := Jvm.Free.Multi.fill_inner (T.setVm vm₁) cA cy n.toNatClampNeg k.toNatClampNeg (defaultValue ty) n.toNatClampNeg j hj
    rw [hF, hTh, hz] at this
    exact this
  have hout : Jvm.Free.Multi.outerC cA n.toNatClampNeg H.size n.toNatClampNeg = vp_cell cA (n.toNatClampNeg, .inr (.inr (.inr (.inr (fun i => if i < n.toNatClampNeg then some (H.size + 1 + i) else none))))) := by
    rw [vp_cell_q]
    exact vr_outer cA n.toNatClampNeg H.size n.toNatClampNeg
  rw [hout] at f2
  have hlt : ∀ a, a ∈ L → a < H.size := fun a ha => by
    obtain ⟨k9, hk9⟩ := va_pl_get (X := X) (f := f) ha
    exact (hP k9 _ hk9).lt
  have hnl : ∀ i : Nat, i < n.toNatClampNeg → H.size + 1 + i ∉ L := fun i _ h => by
    have := hlt _ h
    omega
  have hnm : ∀ a, a ∈ (List.range n.toNatClampNeg).map (fun i => H.size + 1 + i) → a ∉ L := fun a ha h => by
    obtain ⟨i, -, rfl⟩ := List.mem_map.mp ha
    have := hlt _ h
    omega
  have hP0 : va_P D cl (X ++ va_pl L f) F.heap := hP.kept (fun k9 x hx => hold x.1 ((hP k9 x hx).lt))
  have hP1 : va_P D cl ((X ++ va_pl L f) ++ [(H.size, .inl (cA, n.toNatClampNeg, .inr (.inr (.inr (.inr (fun i => if i < n.toNatClampNeg then some (H.size + 1 + i) else none))))))]) F.heap := hP0.app (fun k9 x hx => by
    have h0 : k9 < 1 := (List.getElem?_eq_some_iff.mp hx).1
    rw [show k9 = 0 by omega] at hx
    cases hx
    exact f2)
  have hP2 : va_P D cl (((X ++ va_pl L f) ++ [(H.size, .inl (cA, n.toNatClampNeg, .inr (.inr (.inr (.inr (fun i => if i < n.toNatClampNeg then some (H.size + 1 + i) else none))))))]) ++ ((List.range n.toNatClampNeg).map (fun i => H.size + 1 + i)).map (fun a => (a, .inl (cy, z)))) F.heap := hP1.app (fun k9 x hx => by
    obtain ⟨a, ha, rfl⟩ := List.mem_map.mp (List.mem_of_getElem? hx)
    obtain ⟨i, hi, rfl⟩ := List.mem_map.mp ha
    exact hrow i (List.mem_range.mp hi))
  have hD2 : va_D A (((X ++ va_pl L f) ++ [(H.size, .inl (cA, n.toNatClampNeg, .inr (.inr (.inr (.inr (fun i => if i < n.toNatClampNeg then some (H.size + 1 + i) else none))))))]) ++ ((List.range n.toNatClampNeg).map (fun i => H.size + 1 + i)).map (fun a => (a, .inl (cy, z)))) := by
    have hD1 := hD.push (e := .inl (cA, n.toNatClampNeg, .inr (.inr (.inr (.inr (fun i => if i < n.toNatClampNeg then some (H.size + 1 + i) else none)))))) hP rfl (hA _ hS.1)
    generalize hW1 : (X ++ va_pl L f) ++ [(H.size, .inl (cA, n.toNatClampNeg, .inr (.inr (.inr (.inr (fun i => if i < n.toNatClampNeg then some (H.size + 1 + i) else none))))))] = W1 at hD1 hP1 ⊢
    have hle : ∀ (k9 : Nat) (x : Nat × va_E), W1[k9]? = some x → x.1 ≤ H.size := fun k9 x hx => by
      rw [← hW1] at hx
      by_cases hl : k9 < (X ++ va_pl L f).length
      · rw [List.getElem?_append_left hl] at hx
        exact Nat.le_of_lt ((hP k9 x hx).lt)
      · rw [List.getElem?_append_right (by omega)] at hx
        have h0 : k9 - (X ++ va_pl L f).length < 1 := (List.getElem?_eq_some_iff.mp hx).1
        rw [show k9 - (X ++ va_pl L f).length = 0 by omega] at hx
        cases hx
        exact Nat.le_refl _
    have hr : ∀ (k9 : Nat) (x : Nat × va_E), (((List.range n.toNatClampNeg).map (fun i => H.size + 1 + i)).map (fun a => ((a, .inl (cy, z)) : Nat × va_E)))[k9]? = some x → x.1 = H.size + 1 + k9 := fun k9 x hx => by
      rw [List.getElem?_map, List.getElem?_map] at hx
      by_cases h9 : k9 < n.toNatClampNeg
      · rw [List.getElem?_range h9] at hx
        cases hx
        rfl
      · have hn0 : (List.range n.toNatClampNeg)[k9]? = none := List.getElem?_eq_none (by rw [List.length_range]; omega)
        rw [hn0] at hx
        cases hx
    refine ⟨fun i j x y hi hj hxy => ?_, fun k9 x hx => ?_⟩
    · by_cases h1 : i < W1.length <;> by_cases h2 : j < W1.length
      · rw [List.getElem?_append_left h1] at hi
        rw [List.getElem?_append_left h2] at hj
        exact hD1.1 i j x y hi hj hxy
      · rw [List.getElem?_append_left h1] at hi
        rw [List.getElem?_append_right (by omega)] at hj
        have := hle _ _ hi
        have := hr _ _ hj
        omega
      · rw [List.getElem?_append_right (by omega)] at hi
        rw [List.getElem?_append_left h2] at hj
        have := hle _ _ hj
        have := hr _ _ hi
        omega
      · rw [List.getElem?_append_right (by omega)] at hi hj
        have := hr _ _ hi
        have := hr _ _ hj
        omega
    · by_cases h1 : k9 < W1.length
      · rw [List.getElem?_append_left h1] at hx
        exact hD1.2 k9 x hx
      · rw [List.getElem?_append_right (by omega)] at hx
        have := hr _ _ hx
        exact hA _ (by have := hS.1; omega)
  have hAr : ArrOfT s cA (.array ty) := fun N9 z9 => by
    obtain ⟨-, k9, hk9, cm9, hkk9⟩ := (hO 0 0 0).1
    exact ⟨(fun q hq => by cases hq), k9, hk9, cm9, hkk9⟩
  have hK2 : va_K D cl (tys ++ [(cA, .array ty)]) s := ⟨hK.1, fun k9 x hx => by
    by_cases hl : k9 < tys.length
    · rw [List.getElem?_append_left hl] at hx
      exact hK.2 k9 x hx
    · rw [List.getElem?_append_right (by omega)] at hx
      have h0 : k9 - tys.length < 1 := (List.getElem?_eq_some_iff.mp hx).1
      rw [show k9 - tys.length = 0 by omega] at hx
      cases hx
      exact ⟨hAr, fA⟩⟩
  obtain ⟨t, a1, b1⟩ := kk H.size (fun i => H.size + 1 + i) cA F.heap (fun i j _ _ h => by have h9 : H.size + 1 + i = H.size + 1 + j := h; omega) hnl hK2 (by rw [← vr_rows hnm]; exact vr_lay hP2) (by rw [← vr_rows hnm]; exact vr_layD hD2) ⟨by rw [f1]; have := hS.1; omega, fun x h1 h2 => (hold x (Nat.lt_of_lt_of_le h1 hS.1)).trans (hS.2.1 x h1 h2), hS.2.2⟩ F rfl X'
  refine ⟨t, step t ?_, b1⟩
  have e : T.heap.size = H.size := by rw [hT]
  rw [e]
  exact a1
end VGM
/-! ===== END ===== -/

/-! ===== BEGIN exceptions that leave a method, and their catching by the caller (launches without stack traces) ===== -/
section VXA
/-! The laws vx_back, vx_callV, vx_callS, vx_callSW, vx_throw0, vx_throwS follow proofs of the library, with one case more: JvmDerived/Free/Laws.lean (Back.of_free), Shelf42/LK1.lean (callV, callS), Shelf/KitTraced.lean (throwNew0V, throwNewS). -/
/-- where a method has thrown q: the class by its name, the cell, what was written, the world -/
def vx_T (XC : String → State → State → Prop) (st : State) (q : Addr) (t : State) (mc ms : Nat) (free : Addr → Prop) : Prop :=
  ∃ (E : String) (ce : Cell) (L : List Loc), XC E st t ∧ t.heap[q]? = some ce ∧ ce.vm = .none ∧ st.vm.findClass E = some ce.cls ∧ st.WarmedH t.vm ∧ st.sameButNew ({ t with vm := st.vm } : State) L mc ms ∧ ∀ z ∈ L, free z.base
def vx_Q (Qc : Array Value → State → Outcome → State → Prop) (XC : String → State → State → Prop) (mc ms : Nat) (free : Addr → Prop) : Array Value → State → Outcome → State → Prop := fun a st o t =>
  (Qc a st o t ∧ ∃ L, FrameEnd st o t L mc ms ∧ ∀ q ∈ L, free q.base) ∨ ∃ q, o = .threw q ∧ vx_T XC st q t mc ms free
/-- a callee that returns or throws -/
def vx_Met (l : Launch) (y : MethodName) (ws : List Cond) (rm : Room) (Pc : Array Value → State → Prop) (Qc : Array Value → State → Outcome → State → Prop) (XC : String → State → State → Prop) (mc ms : Nat) (free : Addr → Prop) : Prop :=
  MetFree l y (headSpec ws rm) Pc (fun _ _ _ _ _ => True) (vx_Q Qc XC mc ms free)
def vx_Post (XC : String → State → State → Prop) (mc ms : Nat) (free : Addr → Prop) : Pt → Array Value → Addr → Pt → Prop := fun A a q B =>
  ∃ (g : JFrame) (mk : MethodId) (t : State) (L : List Loc) (E : String) (ce : Cell), B.U.heap = t.heap ∧ B.U.vm = t.vm ∧ XC E (A.U.calling g mk a) t ∧ t.heap[q]? = some ce ∧ ce.vm = .none ∧ A.U.vm.findClass E = some ce.cls ∧ B.locs = A.locs ++ L ∧ (∀ z ∈ L, free z.base) ∧ B.cells = A.cells + mc ∧ B.slots = A.slots + ms
def vx_Back (l : Launch) (R : Room) (p : Program) (e : Env) (below : List Frame) (s : State) (sargs : Array Value) (y : MethodName) (len W9 : Nat)
    (Pre : Pt → Array Value → Prop) (Post : Pt → Array Value → Option Value → Pt → Prop) (PostX : Pt → Array Value → Addr → Pt → Prop) : Prop :=
  ∀ (m : MethodId) (meth : Method) (c : Code) (A : Pt) (g : JFrame) (ig : Instr) (mk : MethodId) (a : Array Value),
    Stand p l e R s m sargs below meth c A.U A.locs A.cells A.slots → g.method = m → g.locals.size = c.maxLocals → decode c.code g.pc = .ok (ig, len) →
    2 * g.monitorRoom + (g.stack.map fun v => v.category).sum ≤ W9 → A.U.methodNamed? y = some mk → Pre A a →
    (∃ (v : Option Value) (B : Pt), Stand p l e R s m sargs below meth c B.U B.locs B.cells B.slots ∧ Post A a v B ∧
      Steps p.tables e below (doInvoke e (A.U.setTop g) [] mk a).1 (B.U.setTop { g with pc := g.pc + len, stack := v.toList ++ g.stack })) ∨
    (∃ (q : Addr) (B : Pt), Stand p l e R s m sargs below meth c B.U B.locs B.cells B.slots ∧ PostX A a q B ∧
      Steps p.tables e below (doInvoke e (A.U.setTop g) [] mk a).1 ((B.U.setTop g).pushFrame (.throwing q)))
section Payer
variable {l : Launch} {R : Room} {p : Program} {e : Env} {below : List Frame} {s : State} {sargs : Array Value} {y : MethodName} {len W9 : Nat}
theorem vx_back {ws : List Cond} {rm : Room} {Pc : Array Value → State → Prop} {Qc : Array Value → State → Outcome → State → Prop} {XC : String → State → State → Prop} {mc ms : Nat} {free : Addr → Prop} {bytes : ByteArray} {maxL : Nat} {ret : Option FieldType}
    (hM : vx_Met l y ws rm Pc Qc XC mc ms free) (hblind : FrameBlind Pc) (hrc : rm.cells = mc) (hrs : rm.slots = ms)
    (hframes : rm.frames + 1 ≤ R.frames) (hlocals : W9 + (maxL + 11) + rm.locals ≤ R.locals)
    (hws : ∀ w ∈ ws, ∀ a' U, s.WarmedH U.vm → w.before a' U = true) (hcode : Cond.code y bytes maxL ret ∈ ws) (hinit : ∀ a' U, s.WarmedH U.vm → (Cond.initialized y.cls).before a' U = true) :
    vx_Back l R p e below s sargs y len W9 (PreOf R mc ms Pc) (PostOf Qc mc ms free) (vx_Post XC mc ms free) := by
  intro m meth c A g ig mk a X hg hsize hdg hW hn hp
  have h1 : (headSpec ws rm).pre.before a A.U = true := atoms_intro fun w hw => hws w hw _ _ X.warmed
  have h2 : (Cond.code y bytes maxL ret).before a A.U = true := hws _ hcode _ _ X.warmed
  have h3 : (Cond.initialized y.cls).before a A.U = true := hinit _ _ X.warmed
  have h4 : A.cells + (headSpec ws rm).room.cells ≤ R.cells := by rw [show (headSpec ws rm).room.cells = mc from hrc]; exact hp.1
  have h5 : A.slots + (headSpec ws rm).room.slots ≤ R.slots := by rw [show (headSpec ws rm).room.slots = ms from hrs]; exact hp.2.1
  have hPc : Pc a (A.U.calling g mk a) := hblind _ _ _ _ hp.2.2
  obtain ⟨U, Ls, c0, s0⟩ := A
  dsimp only [Pt.U, Pt.locs, Pt.cells, Pt.slots] at h1 h2 h3 h4 h5 X hn hPc ⊢
  obtain ⟨methY, cY, hmY, hcY, -, hlY, -, -, -, -⟩ := Cond.code_spec hn h2
  obtain ⟨kY, hkY, -⟩ := className_of_methodNamed hn
  have hinitY : kY.init = .initialized := Cond.initialized_spec (findClass_of_methodNamed hn) hkY h3
  have h : At U g.method c below := by rw [hg]; exact X.here
  have hlocals9 : W9 + (maxL + 11) + (headSpec ws rm).room.locals ≤ R.locals := hlocals
  have happ : (headSpec ws rm).appliesLoose y e.platform (U.calling g mk a) = true :=
    Spec.appliesLoose_calling (g := g) h hdg hn hkY hinitY
      (X.room_calling (g := g) (R' := (headSpec ws rm).room) hsize hmY hcY hframes (by rw [hlY]; omega) h4 h5) h1
  obtain ⟨mid, hmid⟩ := h.above
  have hfr : (U.setTop g).frames = (.java g :: mid) ++ below := by rw [State.frames_setTop' g h.top, hmid]; rfl
  obtain ⟨o, s₂, hsteps, -, hend, hq⟩ := Steps.callFree hM p X.admits X.cas X.clock (acts := []) hfr happ hPc trivial
  have hq' : vx_Q Qc XC mc ms free a (U.calling g mk a) o s₂ := hq
  rw [State.frames_setTop' g h.top] at hend
  obtain ⟨g₀, hg0⟩ := Option.isSome_iff_exists.mp h.top
  obtain ⟨r, hr⟩ := State.topJava?_eq_some.mp hg0
  have hr' : (({ U with heap := s₂.heap, slotsUsed := s₂.slotsUsed } : State).setVm s₂.vm).frames = .java g₀ :: r := hr
  rcases hq' with ⟨hqc, L, hfe, hL⟩ | ⟨q, rfl, E, ce, L, hx, hce, hcv, hcl, hW₂, hsm, hL⟩
  · obtain ⟨⟨v, rfl⟩, hW₂, e2, q2, q3, q4, q5, q6⟩ := id hfe
    have e3 : s₂ = ({ (U.calling g mk a).setFrames s₂.frames with heap := s₂.heap, slotsUsed := s₂.slotsUsed } : State).setVm s₂.vm := by
      have : s₂ = ({ s₂ with vm := (U.calling g mk a).vm } : State).setVm s₂.vm := rfl
      rw [e2] at this
      exact this
    obtain ⟨c₂, i₂, len₂, hc₂, hd₂, hf₂⟩ := hend
    have hW' : U.WarmedH s₂.vm := hW₂
    have hcc : c₂ = c := by
      have h1 : s₂.code? g.method = U.code? g.method := by
        rw [State.code?_eq, State.code?_eq, hW'.alike.method?]
      exact Option.some.inj (hc₂.symm.trans (h1.trans h.code))
    subst hcc
    have hlen : len₂ = len := by rw [hdg] at hd₂; cases hd₂; rfl
    subst hlen
    have hs₂ : s₂ = (({ U with heap := s₂.heap, slotsUsed := s₂.slotsUsed } : State).setVm s₂.vm).setTop { g with pc := g.pc + len₂, stack := v.toList ++ g.stack } := by
      refine e3.trans ?_
      rw [hf₂, State.calling_eq h.top, State.setFrames_setFrames, State.setTop_of_frames _ hr', hr]
      rfl
    have hsame : U.sameButNew ({ U with heap := s₂.heap, slotsUsed := s₂.slotsUsed } : State) L mc ms := by
      refine ⟨?_, q2, q3, q4, q5, q6⟩
      obtain ⟨t, ht, -⟩ := State.frames_cons hr
      show ({ U with heap := s₂.heap, slotsUsed := s₂.slotsUsed } : State) = { U.setFrames U.frames with heap := s₂.heap, slotsUsed := s₂.slotsUsed }
      rw [State.setFrames_self ht]
    subst hg
    refine Or.inl ⟨v, ⟨(({ U with heap := s₂.heap, slotsUsed := s₂.slotsUsed } : State).setVm s₂.vm), Ls ++ L, c0 + mc, s0 + ms⟩,
      ⟨X.admits, X.cas, X.clock, X.frames, X.room, X.hears, X.method, X.code, (X.here.setHeapUsed s₂.heap s₂.slotsUsed).setVm hW'.alike, X.tail, State.WarmedH.trans X.warmed hW', X.limits, X.bytes, X.same.trans (hsame.setVm s.vm)⟩,
      ⟨g, mk, s₂, L, rfl, rfl, hqc, rfl, hL, rfl, rfl⟩, ?_⟩
    show Steps p.tables e below _ ((({ U with heap := s₂.heap, slotsUsed := s₂.slotsUsed } : State).setVm s₂.vm).setTop { g with pc := g.pc + len₂, stack := v.toList ++ g.stack })
    rw [← hs₂]
    exact hsteps
  · obtain ⟨e2, q2, q3, q4, q5, q6⟩ := id hsm
    have e3 : s₂ = ({ (U.calling g mk a).setFrames s₂.frames with heap := s₂.heap, slotsUsed := s₂.slotsUsed } : State).setVm s₂.vm := by
      have : s₂ = ({ s₂ with vm := (U.calling g mk a).vm } : State).setVm s₂.vm := rfl
      rw [e2] at this
      exact this
    have hf₂ : s₂.frames = .throwing q :: .java g :: U.frames.tail := hend
    have hW' : U.WarmedH s₂.vm := hW₂
    have hs₂ : s₂ = ((({ U with heap := s₂.heap, slotsUsed := s₂.slotsUsed } : State).setVm s₂.vm).setTop g).pushFrame (.throwing q) := by
      refine e3.trans ?_
      rw [hf₂, State.calling_eq h.top, State.setFrames_setFrames, State.pushFrame, State.frames_setTop _ hr', State.setTop_of_frames _ hr', State.setFrames_setFrames, hr]
      rfl
    have hsame : U.sameButNew ({ U with heap := s₂.heap, slotsUsed := s₂.slotsUsed } : State) L mc ms := by
      refine ⟨?_, q2, q3, q4, q5, q6⟩
      obtain ⟨t, ht, -⟩ := State.frames_cons hr
      show ({ U with heap := s₂.heap, slotsUsed := s₂.slotsUsed } : State) = { U.setFrames U.frames with heap := s₂.heap, slotsUsed := s₂.slotsUsed }
      rw [State.setFrames_self ht]
    subst hg
    refine Or.inr ⟨q, ⟨(({ U with heap := s₂.heap, slotsUsed := s₂.slotsUsed } : State).setVm s₂.vm), Ls ++ L, c0 + mc, s0 + ms⟩,
      ⟨X.admits, X.cas, X.clock, X.frames, X.room, X.hears, X.method, X.code, (X.here.setHeapUsed s₂.heap s₂.slotsUsed).setVm hW'.alike, X.tail, State.WarmedH.trans X.warmed hW', X.limits, X.bytes, X.same.trans (hsame.setVm s.vm)⟩,
      ⟨g, mk, s₂, L, E, ce, rfl, rfl, hx, hce, hcv, hcl, rfl, hL, rfl, rfl⟩, ?_⟩
    show Steps p.tables e below _ (((({ U with heap := s₂.heap, slotsUsed := s₂.slotsUsed } : State).setVm s₂.vm).setTop g).pushFrame (.throwing q))
    rw [← hs₂]
    exact hsteps
end Payer
section Calls
variable {p : Program} {l : Launch} {e : Env} {R : Room} {s : State} {m : MethodId} {args : Array Value} {below : List Frame} {meth : Method} {c : Code} {T : State} {locs : List Loc} {cells slots : Nat}
theorem vx_callV (X : Stand p l e R s m args below meth c T locs cells slots) (hexec : p.tables.exec = Jvm.exec) {own C : String} {index : Nat} {y : MethodName} {bytes : ByteArray} {maxL : Nat} {ret : Option FieldType}
    (hown : s.vm.findClass own = some m.cls) (hlink : (Cond.methodLink own index y).before args s = true) (hinst : (Cond.instanceMethod y).before args s = true) (hsel : (Cond.selects C y y).before args s = true)
    (hcode : (Cond.code y bytes maxL ret).before args s = true) (hy : y.cls ≠ "java/lang/invoke/MethodHandle" ∧ y.cls ≠ "java/lang/invoke/VarHandle")
    {W9 : Nat} {Pre : Pt → Array Value → Prop} {Post : Pt → Array Value → Option Value → Pt → Prop} {PostX : Pt → Array Value → Addr → Pt → Prop} (hK : vx_Back l R p e below s args y 3 W9 Pre Post PostX)
    {b : Addr} {cellB : Cell} (hcell : T.heap[b]? = some cellB) (hobj : cellB.vm.isStatics = false) (hcls : s.vm.findClass C = some cellB.cls)
    {g : JFrame} (hg : g.method = m) (hsize : g.locals.size = c.maxLocals) {argsL rest : List Value} (hlen : ∀ sig, parseMethodDescriptor y.desc = some sig → argsL.length = sig.parameters.length)
    (hstack : g.stack = argsL.reverse ++ .ref b :: rest) (hW : 2 * g.monitorRoom + (rest.map fun v => v.category).sum ≤ W9) (hdg : decode c.code g.pc = .ok (.invokevirtual index, 3))
    (hpre : ∀ vm₁, s.WarmedH vm₁ → Pre ⟨T.setVm vm₁, locs, cells, slots⟩ (Value.ref b :: argsL).toArray) :
    (∃ (v : Option Value) (vm₁ : Vm) (B : Pt), s.WarmedH vm₁ ∧ Stand p l e R s m args below meth c B.U B.locs B.cells B.slots ∧ Post ⟨T.setVm vm₁, locs, cells, slots⟩ (Value.ref b :: argsL).toArray v B ∧
      ∀ target, Steps p.tables e below (B.U.setTop { g with pc := g.pc + 3, stack := v.toList ++ rest }) target → Steps p.tables e below (T.setTop g) target) ∨
    (∃ (q : Addr) (vm₁ : Vm) (B : Pt), s.WarmedH vm₁ ∧ Stand p l e R s m args below meth c B.U B.locs B.cells B.slots ∧ PostX ⟨T.setVm vm₁, locs, cells, slots⟩ (Value.ref b :: argsL).toArray q B ∧
      Steps p.tables e below (T.setTop g) ((B.U.setTop { g with stack := rest }).pushFrame (.throwing q))) := by
  obtain ⟨mk, methM, hnamed, hmethM, hstM, habM⟩ := Cond.instanceMethod_spec hinst
  obtain ⟨methM', cM, hmethM', -, -, -, -, -, -, hsigM⟩ := Cond.code_spec hnamed hcode
  cases hmethM.symm.trans hmethM'
  obtain ⟨c2, r2, m2, q1, q2, q3, q4, kP, hkP, hkPi⟩ := Cond.selects_spec hsel
  cases hcls.symm.trans q1
  cases (State.methodFound?_of_named hnamed hy).symm.trans q2
  cases hnamed.symm.trans q3
  have hselP : selectMethod e.platform s.vm cellB.cls mk = .method mk := by rw [Launch.admits_selectMethod X.admits]; exact q4
  obtain ⟨vm₁, X₁, hstep₁⟩ := X.invokevirtual hexec hown hlink hnamed hmethM hstM hkP hkPi hy (a := b) (cell := cellB) hcell
    (fun z h => by rw [h] at hobj; cases hobj) hselP hmethM habM hkP hkPi (g := g) hg (argsL := argsL) (rest := rest) (hlen _ hsigM) hstack hdg
  rcases hK m meth c ⟨T.setVm vm₁, locs, cells, slots⟩ { g with stack := rest } (.invokevirtual index) mk (Value.ref b :: argsL).toArray X₁ hg hsize hdg hW (X₁.named hnamed) (hpre vm₁ X₁.warmed) with ⟨v, B, X', hpost, hsteps⟩ | ⟨q, B, X', hpost, hsteps⟩
  · exact Or.inl ⟨v, vm₁, B, X₁.warmed, X', hpost, fun target h => hstep₁ _ fun acts => by rw [doInvoke_state]; exact hsteps.trans h⟩
  · exact Or.inr ⟨q, vm₁, B, X₁.warmed, X', hpost, hstep₁ _ fun acts => by rw [doInvoke_state]; exact hsteps⟩
theorem vx_callS (X : Stand p l e R s m args below meth c T locs cells slots) (hexec : p.tables.exec = Jvm.exec) {own : String} {index : Nat} {y : MethodName} {bytes : ByteArray} {maxL : Nat} {ret : Option FieldType}
    (hown : s.vm.findClass own = some m.cls) (hlink : (Cond.methodLink own index y).before args s = true) (hstat : (Cond.static y).before args s = true) (hinit : (Cond.initialized y.cls).before args s = true)
    (hcode : (Cond.code y bytes maxL ret).before args s = true) (hy : y.cls ≠ "java/lang/invoke/MethodHandle" ∧ y.cls ≠ "java/lang/invoke/VarHandle")
    {W9 : Nat} {Pre : Pt → Array Value → Prop} {Post : Pt → Array Value → Option Value → Pt → Prop} {PostX : Pt → Array Value → Addr → Pt → Prop} (hK : vx_Back l R p e below s args y 3 W9 Pre Post PostX)
    {g : JFrame} (hg : g.method = m) (hsize : g.locals.size = c.maxLocals) {argsL rest : List Value} (hlen : ∀ sig, parseMethodDescriptor y.desc = some sig → argsL.length = sig.parameters.length)
    (hstack : g.stack = argsL.reverse ++ rest) (hW : 2 * g.monitorRoom + (rest.map fun v => v.category).sum ≤ W9) (hdg : decode c.code g.pc = .ok (.invokestatic index, 3))
    (hpre : ∀ vm₁, s.WarmedH vm₁ → Pre ⟨T.setVm vm₁, locs, cells, slots⟩ argsL.toArray) :
    (∃ (v : Option Value) (vm₁ : Vm) (B : Pt), s.WarmedH vm₁ ∧ Stand p l e R s m args below meth c B.U B.locs B.cells B.slots ∧ Post ⟨T.setVm vm₁, locs, cells, slots⟩ argsL.toArray v B ∧
      ∀ target, Steps p.tables e below (B.U.setTop { g with pc := g.pc + 3, stack := v.toList ++ rest }) target → Steps p.tables e below (T.setTop g) target) ∨
    (∃ (q : Addr) (vm₁ : Vm) (B : Pt), s.WarmedH vm₁ ∧ Stand p l e R s m args below meth c B.U B.locs B.cells B.slots ∧ PostX ⟨T.setVm vm₁, locs, cells, slots⟩ argsL.toArray q B ∧
      Steps p.tables e below (T.setTop g) ((B.U.setTop { g with stack := rest }).pushFrame (.throwing q))) := by
  obtain ⟨mk, hnamed⟩ := Cond.code_named hcode
  obtain ⟨methM, cM, hmethM, -, -, -, -, -, -, hsigM⟩ := Cond.code_spec hnamed hcode
  have hstatic : methM.isStatic = true := Cond.static_spec hnamed hmethM hstat
  obtain ⟨kP, hkP, -⟩ := className_of_methodNamed hnamed
  have hinitP : kP.init = .initialized := Cond.initialized_spec (findClass_of_methodNamed hnamed) hkP hinit
  obtain ⟨vm₁, X₁, hstep₁⟩ := X.invokestatic hexec hown hlink hnamed hmethM hstatic hkP hinitP hy (g := g) hg (argsL := argsL) (rest := rest) (hlen _ hsigM) hstack hdg
  rcases hK m meth c ⟨T.setVm vm₁, locs, cells, slots⟩ { g with stack := rest } (.invokestatic index) mk argsL.toArray X₁ hg hsize hdg hW (X₁.named hnamed) (hpre vm₁ X₁.warmed) with ⟨v, B, X', hpost, hsteps⟩ | ⟨q, B, X', hpost, hsteps⟩
  · exact Or.inl ⟨v, vm₁, B, X₁.warmed, X', hpost, fun target h => hstep₁ _ fun acts => by rw [doInvoke_state]; exact hsteps.trans h⟩
  · exact Or.inr ⟨q, vm₁, B, X₁.warmed, X', hpost, hstep₁ _ fun acts => by rw [doInvoke_state]; exact hsteps⟩
end Calls
theorem vx_cls {s : State} {T : State} {vm₁ : Vm} {E : String} {k : ClassId} (hW : s.WarmedH vm₁) (h : (T.setVm vm₁).vm.findClass E = some k) : s.vm.findClass E = some k := by
  have h1 : vm₁.findClass E = some k := h
  rw [hW.alike.findClass] at h1
  exact h1
/-- the method's frame g, with q thrown over it -/
def vx_W (p : Program) (l : Launch) (e : Env) (R : Room) (s : State) (m : MethodId) (args : Array Value) (below : List Frame) (meth : Method) (c : Code) (H : Heap) (locs : List Loc) (cells slots : Nat) (Q : State → Prop) (g : JFrame) (q : Addr) : Prop :=
  ∀ T : State, T.heap = H → Stand p l e R s m args below meth c T locs cells slots → ∃ t, Steps p.tables e below ((T.setTop g).pushFrame (.throwing q)) t ∧ Q t
def vx_Run (p : Program) (l : Launch) (e : Env) (R : Room) (s : State) (m : MethodId) (args : Array Value) (below : List Frame) (meth : Method) (c : Code) (H : Heap) (locs : List Loc) (cells slots mc ms : Nat) (g : JFrame) (rest : List Value) (Qa : State → Outcome → State → Prop) (XC : String → State → State → Prop) (free : Addr → Prop) : Prop :=
  ∀ T : State, T.heap = H → Stand p l e R s m args below meth c T locs cells slots →
    (∃ (v : Option Value) (st₀ t T' : State) (L : List Loc), st₀.heap = H ∧ Stand p l e R s m args below meth c T' (locs ++ L) (cells + mc) (slots + ms) ∧ (∀ q ∈ L, free q.base) ∧ T'.heap = t.heap ∧ T'.vm = t.vm ∧ Qa st₀ (.returned v) t ∧
      Goes p e below T g T' { g with pc := g.pc + 3, stack := v.toList ++ rest }) ∨
    (∃ (q : Addr) (st₀ t T' : State) (L : List Loc) (E : String) (ce : Cell), st₀.heap = H ∧ Stand p l e R s m args below meth c T' (locs ++ L) (cells + mc) (slots + ms) ∧ (∀ z ∈ L, free z.base) ∧ T'.heap = t.heap ∧ T'.vm = t.vm ∧ XC E st₀ t ∧ t.heap[q]? = some ce ∧ ce.vm = .none ∧ s.vm.findClass E = some ce.cls ∧
      Steps p.tables e below (T.setTop g) ((T'.setTop { g with stack := rest }).pushFrame (.throwing q)))
def vx_X {S : Type} (px : S → Prop) (B : String → S → State → Prop) (A : Nat → Prop) : String → State → State → Prop := fun E st t => ∃ u : S, px u ∧ B E u t ∧ va_F A st t
section Runs
variable {p : Program} {l : Launch} {e : Env} {R : Room} {s : State} {m : MethodId} {args : Array Value} {below : List Frame} {meth : Method} {c : Code} {H : Heap} {locs : List Loc} {cells slots : Nat}
variable {y : MethodName} {bytes cc : ByteArray} {maxL nL mc ms n index : Nat} {ret : Option FieldType} {ws : List Cond} {rm : Room} {Pc : Array Value → State → Prop} {Qc : Array Value → State → Outcome → State → Prop} {XC : String → State → State → Prop} {free : Addr → Prop} {Ts : List Cond} {own C : String} {b : Addr} {As rest : List Value} {g : JFrame}
theorem vx_callBack (cb : CallB R s args own index y bytes maxL ret ws rm mc ms n) (hM : vx_Met l y ws rm Pc Qc XC mc ms free) (hbl : FrameBlind Pc) : vx_Back l R p e below s args y 3 8 (PreOf R mc ms Pc) (PostOf Qc mc ms free) (vx_Post XC mc ms free) := by
  obtain ⟨hrc, hrs, hfr, hlo, hws, hcw, -, hini, -⟩ := cb
  exact vx_back (bytes := bytes) (maxL := maxL) (ret := ret) hM hbl hrc hrs hfr hlo hws hcw (fun a' U hW => word_at hW (Or.inl (by first | rfl | simp [Cond.onTables, Cond.keeps, Cond.steady])) hini)
theorem vx_runV (S : CallFix p m c cc nL s args Ts own) (hM : vx_Met l y ws rm Pc Qc XC mc ms free) (cw : CallW R s args own C index y bytes maxL ret ws rm mc ms n) (hp : PreV s H C b Pc As)
    (hg : g.method = m) (hn : As.length = n) (hsize : g.locals.size = nL) (hstack : g.stack = As.reverse ++ .ref b :: rest) (hW : 2 * g.monitorRoom + (rest.map fun v => v.category).sum ≤ 8) (hdg : decode cc g.pc = .ok (.invokevirtual index, 3)) (hf : cells + mc ≤ R.cells ∧ slots + ms ≤ R.slots) :
    vx_Run p l e R s m args below meth c H locs cells slots mc ms g rest (Qc (Value.ref b :: As).toArray) XC free := by
  have hK : vx_Back l R p e below s args y 3 8 (PreOf R mc ms Pc) (PostOf Qc mc ms free) (vx_Post XC mc ms free) := vx_callBack cw.1 hM hp.1
  obtain ⟨⟨-, -, -, -, -, -, hcode, -, hy, hlen, hl⟩, hin, hse⟩ := cw
  obtain ⟨hx, hb, hml, ho, -⟩ := S
  obtain ⟨-, ⟨cellB, hcB, hoB, hclB⟩, hPc⟩ := hp
  intro T hT X
  rcases vx_callV X hx (C := C) (bytes := bytes) (maxL := maxL) (ret := ret) ho hl hin hse hcode hy hK (by rw [hT]; exact hcB) hoB hclB hg (hsize.trans hml.symm) (argsL := As) (rest := rest) (fun sig h => hn.trans (hlen sig h)) hstack hW (by rw [hb]; exact hdg)
    (fun vm₁ hW₁ => ⟨hf.1, hf.2, hPc (T.setVm vm₁) hT hW₁⟩) with ⟨v, vm₁, ⟨U', l2, c2, s2⟩, hW₁, X', ⟨g', mk, t, L, e1, e2, hq, h1, hL, h2, h3⟩, st⟩ | ⟨q, vm₁, ⟨U', l2, c2, s2⟩, hW₁, X', ⟨g', mk, t, L, E, ce, e1, e2, hq, hce, hcv, hcl, h1, hL, h2, h3⟩, st⟩
  · dsimp only [Pt.U, Pt.locs, Pt.cells, Pt.slots] at X' e1 e2 h1 h2 h3 st
    subst h1; subst h2; subst h3
    exact Or.inl ⟨v, (T.setVm vm₁).calling g' mk (Value.ref b :: As).toArray, t, U', L, hT, X', hL, e1, e2, hq, st⟩
  · dsimp only [Pt.U, Pt.locs, Pt.cells, Pt.slots] at X' e1 e2 h1 h2 h3 st hcl
    subst h1; subst h2; subst h3
    exact Or.inr ⟨q, (T.setVm vm₁).calling g' mk (Value.ref b :: As).toArray, t, U', L, E, ce, hT, X', hL, e1, e2, hq, hce, hcv, vx_cls hW₁ hcl, st⟩
theorem vx_runS (S : CallFix p m c cc nL s args Ts own) (hM : vx_Met l y ws rm Pc Qc XC mc ms free) (cw : CallB R s args own index y bytes maxL ret ws rm mc ms n ∧ (Cond.static y).before args s = true) (hp : PreS s H Pc As)
    (hg : g.method = m) (hn : As.length = n) (hsize : g.locals.size = nL) (hstack : g.stack = As.reverse ++ rest) (hW : 2 * g.monitorRoom + (rest.map fun v => v.category).sum ≤ 8) (hdg : decode cc g.pc = .ok (.invokestatic index, 3)) (hf : cells + mc ≤ R.cells ∧ slots + ms ≤ R.slots) :
    vx_Run p l e R s m args below meth c H locs cells slots mc ms g rest (Qc As.toArray) XC free := by
  have hK : vx_Back l R p e below s args y 3 8 (PreOf R mc ms Pc) (PostOf Qc mc ms free) (vx_Post XC mc ms free) := vx_callBack cw.1 hM hp.1
  obtain ⟨⟨-, -, -, -, -, -, hcode, hini, hy, hlen, hl⟩, hstt⟩ := cw
  obtain ⟨hx, hb, hml, ho, -⟩ := S
  intro T hT X
  rcases vx_callS X hx (bytes := bytes) (maxL := maxL) (ret := ret) ho hl hstt hini hcode hy hK hg (hsize.trans hml.symm) (argsL := As) (rest := rest) (fun sig h => hn.trans (hlen sig h)) hstack hW (by rw [hb]; exact hdg)
    (fun vm₁ hW₁ => ⟨hf.1, hf.2, hp.2 (T.setVm vm₁) hT hW₁⟩) with ⟨v, vm₁, ⟨U', l2, c2, s2⟩, hW₁, X', ⟨g', mk, t, L, e1, e2, hq, h1, hL, h2, h3⟩, st⟩ | ⟨q, vm₁, ⟨U', l2, c2, s2⟩, hW₁, X', ⟨g', mk, t, L, E, ce, e1, e2, hq, hce, hcv, hcl, h1, hL, h2, h3⟩, st⟩
  · dsimp only [Pt.U, Pt.locs, Pt.cells, Pt.slots] at X' e1 e2 h1 h2 h3 st
    subst h1; subst h2; subst h3
    exact Or.inl ⟨v, (T.setVm vm₁).calling g' mk As.toArray, t, U', L, hT, X', hL, e1, e2, hq, st⟩
  · dsimp only [Pt.U, Pt.locs, Pt.cells, Pt.slots] at X' e1 e2 h1 h2 h3 st hcl
    subst h1; subst h2; subst h3
    exact Or.inr ⟨q, (T.setVm vm₁).calling g' mk As.toArray, t, U', L, E, ce, hT, X', hL, e1, e2, hq, hce, hcv, vx_cls hW₁ hcl, st⟩
end Runs
section Rows
variable {p : Program} {l : Launch} {e : Env} {R : Room} {s : State} {m : MethodId} {args : Array Value} {below : List Frame} {meth : Method} {c : Code} {H : Heap} {locs : List Loc} {cells slots : Nat} {Q : State → Prop}
variable {mc ms : Nat} {free : Addr → Prop} {A0 A1 : Nat → Prop} {H0 : Heap} {a : Array Value} {pc : Nat} {ls : Array Slot} {st0 rest : List Value}
theorem vx_keep {st₀ t T' : State} {L : List Loc} (h0 : st₀.heap = H) (e1 : T'.heap = t.heap) (hS : va_S A0 H0 H locs) (hA : ∀ q, q < H.size → A1 q → A0 q) (hf : ∀ q, free q → A0 q) (hL : ∀ q ∈ L, free q.base) (hF : va_F A1 st₀ t) :
    H.size ≤ T'.heap.size ∧ (∀ q : Nat, q < H.size → ¬ A1 q → T'.heap[q]? = H[q]?) ∧ va_S A0 H0 T'.heap (locs ++ L) := by
  obtain ⟨hz, hk⟩ := hF
  rw [h0] at hz hk
  exact ⟨by rw [e1]; exact hz, fun q h1 h2 => by rw [e1]; exact hk q h1 h2,
    ⟨Nat.le_trans hS.1 (by rw [e1]; exact hz), fun q h1 h2 => by rw [e1, hk q (Nat.lt_of_lt_of_le h1 hS.1) (fun z => h2 (hA q (Nat.lt_of_lt_of_le h1 hS.1) z))]; exact hS.2.1 q h1 h2, fun q hq => by
      rcases List.mem_append.mp hq with h | h
      · exact hS.2.2 q h
      · exact hf _ (hL q h)⟩⟩
theorem vx_calli {S SX : Type} {post : Int32 → S → Prop} {px : SX → Prop} {B : S → State → Prop} {BX : String → SX → State → Prop} {AX : Nat → Prop} (hr : vx_Run p l e R s m args below meth c H locs cells slots mc ms (F0 m pc ls st0) rest (va_Qi post B A1 a) (vx_X px BX AX) free) (hS : va_S A0 H0 H locs) (hA : ∀ q, q < H.size → A1 q → A0 q) (hf : ∀ q, free q → A0 q) (hAX : ∀ q, q < H.size → AX q → A0 q)
    (kx : ∀ (E : String) (ce : Cell) (q9 : Addr) (u : SX) (t : State) (H1 : Heap) (locs1 : List Loc), t.heap = H1 → s.vm.Alike t.vm → px u → BX E u t → H.size ≤ H1.size → (∀ q : Nat, q < H.size → ¬ AX q → H1[q]? = H[q]?) → va_S A0 H0 H1 locs1 → H1[q9]? = some ce → ce.vm = .none → s.vm.findClass E = some ce.cls → vx_W p l e R s m args below meth c H1 locs1 (cells + mc) (slots + ms) Q (F0 m pc ls rest) q9)
    (kk : ∀ (r : Int32) (u : S) (t : State) (H1 : Heap) (locs1 : List Loc), t.heap = H1 → s.vm.Alike t.vm → post r u → B u t → H.size ≤ H1.size → (∀ q : Nat, q < H.size → ¬ A1 q → H1[q]? = H[q]?) → va_S A0 H0 H1 locs1 → W p l e R s m args below meth c H1 locs1 (cells + mc) (slots + ms) Q (F0 m (pc + 3) ls (.int r :: rest))) : W p l e R s m args below meth c H locs cells slots Q (F0 m pc ls st0) := by
  intro T hT X
  rcases hr T hT X with ⟨v, st₀, t, T', L, h0, X', hL, e1, e2, ⟨⟨r, u, hv, hp, hb⟩, hF⟩, st⟩ | ⟨q, st₀, t, T', L, E, ce, h0, X', hL, e1, e2, ⟨u, hp, hb, hF⟩, hce, hcv, hcl, st⟩
  · cases hv
    obtain ⟨k1, k2, k3⟩ := vx_keep h0 e1 hS hA hf hL hF
    obtain ⟨t2, a1, b1⟩ := kk r u t T'.heap (locs ++ L) e1.symm (by rw [← e2]; exact X'.warmed.alike) hp hb k1 k2 k3 T' rfl X'
    exact ⟨t2, st t2 a1, b1⟩
  · obtain ⟨k1, k2, k3⟩ := vx_keep h0 e1 hS hAX hf hL hF
    obtain ⟨t2, a1, b1⟩ := kx E ce q u t T'.heap (locs ++ L) e1.symm (by rw [← e2]; exact X'.warmed.alike) hp hb k1 k2 k3 (by rw [e1]; exact hce) hcv hcl T' rfl X'
    exact ⟨t2, st.trans a1, b1⟩
theorem vx_calll {S SX : Type} {post : Int64 → S → Prop} {px : SX → Prop} {B : S → State → Prop} {BX : String → SX → State → Prop} {AX : Nat → Prop} (hr : vx_Run p l e R s m args below meth c H locs cells slots mc ms (F0 m pc ls st0) rest (va_Ql post B A1 a) (vx_X px BX AX) free) (hS : va_S A0 H0 H locs) (hA : ∀ q, q < H.size → A1 q → A0 q) (hf : ∀ q, free q → A0 q) (hAX : ∀ q, q < H.size → AX q → A0 q)
    (kx : ∀ (E : String) (ce : Cell) (q9 : Addr) (u : SX) (t : State) (H1 : Heap) (locs1 : List Loc), t.heap = H1 → s.vm.Alike t.vm → px u → BX E u t → H.size ≤ H1.size → (∀ q : Nat, q < H.size → ¬ AX q → H1[q]? = H[q]?) → va_S A0 H0 H1 locs1 → H1[q9]? = some ce → ce.vm = .none → s.vm.findClass E = some ce.cls → vx_W p l e R s m args below meth c H1 locs1 (cells + mc) (slots + ms) Q (F0 m pc ls rest) q9)
    (kk : ∀ (r : Int64) (u : S) (t : State) (H1 : Heap) (locs1 : List Loc), t.heap = H1 → s.vm.Alike t.vm → post r u → B u t → H.size ≤ H1.size → (∀ q : Nat, q < H.size → ¬ A1 q → H1[q]? = H[q]?) → va_S A0 H0 H1 locs1 → W p l e R s m args below meth c H1 locs1 (cells + mc) (slots + ms) Q (F0 m (pc + 3) ls (.long r :: rest))) : W p l e R s m args below meth c H locs cells slots Q (F0 m pc ls st0) := by
  intro T hT X
  rcases hr T hT X with ⟨v, st₀, t, T', L, h0, X', hL, e1, e2, ⟨⟨r, u, hv, hp, hb⟩, hF⟩, st⟩ | ⟨q, st₀, t, T', L, E, ce, h0, X', hL, e1, e2, ⟨u, hp, hb, hF⟩, hce, hcv, hcl, st⟩
  · cases hv
    obtain ⟨k1, k2, k3⟩ := vx_keep h0 e1 hS hA hf hL hF
    obtain ⟨t2, a1, b1⟩ := kk r u t T'.heap (locs ++ L) e1.symm (by rw [← e2]; exact X'.warmed.alike) hp hb k1 k2 k3 T' rfl X'
    exact ⟨t2, st t2 a1, b1⟩
  · obtain ⟨k1, k2, k3⟩ := vx_keep h0 e1 hS hAX hf hL hF
    obtain ⟨t2, a1, b1⟩ := kx E ce q u t T'.heap (locs ++ L) e1.symm (by rw [← e2]; exact X'.warmed.alike) hp hb k1 k2 k3 (by rw [e1]; exact hce) hcv hcl T' rfl X'
    exact ⟨t2, st.trans a1, b1⟩
theorem vx_callf {S SX : Type} {post : UInt32 → S → Prop} {px : SX → Prop} {B : S → State → Prop} {BX : String → SX → State → Prop} {AX : Nat → Prop} (hr : vx_Run p l e R s m args below meth c H locs cells slots mc ms (F0 m pc ls st0) rest (va_Qf post B A1 a) (vx_X px BX AX) free) (hS : va_S A0 H0 H locs) (hA : ∀ q, q < H.size → A1 q → A0 q) (hf : ∀ q, free q → A0 q) (hAX : ∀ q, q < H.size → AX q → A0 q)
    (kx : ∀ (E : String) (ce : Cell) (q9 : Addr) (u : SX) (t : State) (H1 : Heap) (locs1 : List Loc), t.heap = H1 → s.vm.Alike t.vm → px u → BX E u t → H.size ≤ H1.size → (∀ q : Nat, q < H.size → ¬ AX q → H1[q]? = H[q]?) → va_S A0 H0 H1 locs1 → H1[q9]? = some ce → ce.vm = .none → s.vm.findClass E = some ce.cls → vx_W p l e R s m args below meth c H1 locs1 (cells + mc) (slots + ms) Q (F0 m pc ls rest) q9)
    (kk : ∀ (r : UInt32) (u : S) (t : State) (H1 : Heap) (locs1 : List Loc), t.heap = H1 → s.vm.Alike t.vm → post r u → B u t → H.size ≤ H1.size → (∀ q : Nat, q < H.size → ¬ A1 q → H1[q]? = H[q]?) → va_S A0 H0 H1 locs1 → W p l e R s m args below meth c H1 locs1 (cells + mc) (slots + ms) Q (F0 m (pc + 3) ls (.float r :: rest))) : W p l e R s m args below meth c H locs cells slots Q (F0 m pc ls st0) := by
  intro T hT X
  rcases hr T hT X with ⟨v, st₀, t, T', L, h0, X', hL, e1, e2, ⟨⟨r, u, hv, hp, hb⟩, hF⟩, st⟩ | ⟨q, st₀, t, T', L, E, ce, h0, X', hL, e1, e2, ⟨u, hp, hb, hF⟩, hce, hcv, hcl, st⟩
  · cases hv
    obtain ⟨k1, k2, k3⟩ := vx_keep h0 e1 hS hA hf hL hF
    obtain ⟨t2, a1, b1⟩ := kk r u t T'.heap (locs ++ L) e1.symm (by rw [← e2]; exact X'.warmed.alike) hp hb k1 k2 k3 T' rfl X'
    exact ⟨t2, st t2 a1, b1⟩
  · obtain ⟨k1, k2, k3⟩ := vx_keep h0 e1 hS hAX hf hL hF
    obtain ⟨t2, a1, b1⟩ := kx E ce q u t T'.heap (locs ++ L) e1.symm (by rw [← e2]; exact X'.warmed.alike) hp hb k1 k2 k3 (by rw [e1]; exact hce) hcv hcl T' rfl X'
    exact ⟨t2, st.trans a1, b1⟩
theorem vx_calld {S SX : Type} {post : UInt64 → S → Prop} {px : SX → Prop} {B : S → State → Prop} {BX : String → SX → State → Prop} {AX : Nat → Prop} (hr : vx_Run p l e R s m args below meth c H locs cells slots mc ms (F0 m pc ls st0) rest (va_Qd post B A1 a) (vx_X px BX AX) free) (hS : va_S A0 H0 H locs) (hA : ∀ q, q < H.size → A1 q → A0 q) (hf : ∀ q, free q → A0 q) (hAX : ∀ q, q < H.size → AX q → A0 q)
    (kx : ∀ (E : String) (ce : Cell) (q9 : Addr) (u : SX) (t : State) (H1 : Heap) (locs1 : List Loc), t.heap = H1 → s.vm.Alike t.vm → px u → BX E u t → H.size ≤ H1.size → (∀ q : Nat, q < H.size → ¬ AX q → H1[q]? = H[q]?) → va_S A0 H0 H1 locs1 → H1[q9]? = some ce → ce.vm = .none → s.vm.findClass E = some ce.cls → vx_W p l e R s m args below meth c H1 locs1 (cells + mc) (slots + ms) Q (F0 m pc ls rest) q9)
    (kk : ∀ (r : UInt64) (u : S) (t : State) (H1 : Heap) (locs1 : List Loc), t.heap = H1 → s.vm.Alike t.vm → post r u → B u t → H.size ≤ H1.size → (∀ q : Nat, q < H.size → ¬ A1 q → H1[q]? = H[q]?) → va_S A0 H0 H1 locs1 → W p l e R s m args below meth c H1 locs1 (cells + mc) (slots + ms) Q (F0 m (pc + 3) ls (.double r :: rest))) : W p l e R s m args below meth c H locs cells slots Q (F0 m pc ls st0) := by
  intro T hT X
  rcases hr T hT X with ⟨v, st₀, t, T', L, h0, X', hL, e1, e2, ⟨⟨r, u, hv, hp, hb⟩, hF⟩, st⟩ | ⟨q, st₀, t, T', L, E, ce, h0, X', hL, e1, e2, ⟨u, hp, hb, hF⟩, hce, hcv, hcl, st⟩
  · cases hv
    obtain ⟨k1, k2, k3⟩ := vx_keep h0 e1 hS hA hf hL hF
    obtain ⟨t2, a1, b1⟩ := kk r u t T'.heap (locs ++ L) e1.symm (by rw [← e2]; exact X'.warmed.alike) hp hb k1 k2 k3 T' rfl X'
    exact ⟨t2, st t2 a1, b1⟩
  · obtain ⟨k1, k2, k3⟩ := vx_keep h0 e1 hS hAX hf hL hF
    obtain ⟨t2, a1, b1⟩ := kx E ce q u t T'.heap (locs ++ L) e1.symm (by rw [← e2]; exact X'.warmed.alike) hp hb k1 k2 k3 (by rw [e1]; exact hce) hcv hcl T' rfl X'
    exact ⟨t2, st.trans a1, b1⟩
theorem vx_callv {S SX : Type} {post : S → Prop} {px : SX → Prop} {B : S → State → Prop} {BX : String → SX → State → Prop} {AX : Nat → Prop} (hr : vx_Run p l e R s m args below meth c H locs cells slots mc ms (F0 m pc ls st0) rest (va_Qv post B A1 a) (vx_X px BX AX) free) (hS : va_S A0 H0 H locs) (hA : ∀ q, q < H.size → A1 q → A0 q) (hf : ∀ q, free q → A0 q) (hAX : ∀ q, q < H.size → AX q → A0 q)
    (kx : ∀ (E : String) (ce : Cell) (q9 : Addr) (u : SX) (t : State) (H1 : Heap) (locs1 : List Loc), t.heap = H1 → s.vm.Alike t.vm → px u → BX E u t → H.size ≤ H1.size → (∀ q : Nat, q < H.size → ¬ AX q → H1[q]? = H[q]?) → va_S A0 H0 H1 locs1 → H1[q9]? = some ce → ce.vm = .none → s.vm.findClass E = some ce.cls → vx_W p l e R s m args below meth c H1 locs1 (cells + mc) (slots + ms) Q (F0 m pc ls rest) q9)
    (kk : ∀ (u : S) (t : State) (H1 : Heap) (locs1 : List Loc), t.heap = H1 → s.vm.Alike t.vm → post u → B u t → H.size ≤ H1.size → (∀ q : Nat, q < H.size → ¬ A1 q → H1[q]? = H[q]?) → va_S A0 H0 H1 locs1 → W p l e R s m args below meth c H1 locs1 (cells + mc) (slots + ms) Q (F0 m (pc + 3) ls (rest))) : W p l e R s m args below meth c H locs cells slots Q (F0 m pc ls st0) := by
  intro T hT X
  rcases hr T hT X with ⟨v, st₀, t, T', L, h0, X', hL, e1, e2, ⟨⟨u, hv, hp, hb⟩, hF⟩, st⟩ | ⟨q, st₀, t, T', L, E, ce, h0, X', hL, e1, e2, ⟨u, hp, hb, hF⟩, hce, hcv, hcl, st⟩
  · cases hv
    obtain ⟨k1, k2, k3⟩ := vx_keep h0 e1 hS hA hf hL hF
    obtain ⟨t2, a1, b1⟩ := kk u t T'.heap (locs ++ L) e1.symm (by rw [← e2]; exact X'.warmed.alike) hp hb k1 k2 k3 T' rfl X'
    exact ⟨t2, st t2 a1, b1⟩
  · obtain ⟨k1, k2, k3⟩ := vx_keep h0 e1 hS hAX hf hL hF
    obtain ⟨t2, a1, b1⟩ := kx E ce q u t T'.heap (locs ++ L) e1.symm (by rw [← e2]; exact X'.warmed.alike) hp hb k1 k2 k3 (by rw [e1]; exact hce) hcv hcl T' rfl X'
    exact ⟨t2, st.trans a1, b1⟩
/-- caught by the row x of this method's table; the rows ahead don't take it -/
theorem vx_catch {own name : String} {E : String} {ce : Cell} {q : Addr} (hown : s.vm.findClass own = some m.cls) (pre : List ExceptionTableEntry) (x : ExceptionTableEntry) (suf : List ExceptionTableEntry) (hsplit : c.exceptionTable.toList = pre ++ x :: suf)
    (hpass : ∀ z ∈ pre, covers z pc = false ∨ (z.catchType ≠ 0 ∧ ∃ nm : String, (Cond.classLink own z.catchType nm).before args s = true ∧ va_Nc E nm s)) (hx : covers x pc = true) (h0 : x.catchType ≠ 0)
    (hlink : (Cond.classLink own x.catchType name).before args s = true) (hcast : (Cond.castable E name).before args s = true) (hcell : H[q]? = some ce) (hv : ce.vm = .none) (hcl : s.vm.findClass E = some ce.cls)
    (kk : W p l e R s m args below meth c H locs cells slots Q (F0 m x.handlerPc ls [.ref q])) : vx_W p l e R s m args below meth c H locs cells slots Q (F0 m pc ls rest) q := by
  intro T hT X
  have hpl : e.platform.magicAccessors = ({} : Platform).magicAccessors := by rw [X.admits.platform]
  obtain ⟨c3, c4, hc3, hc4, hasg⟩ := Cond.castable_spec hcast
  cases Option.some.inj (hc3.symm.trans hcl)
  obtain ⟨c5, hc5, hcl5⟩ := Cond.classLink_spec hown hlink e.platform hpl
  cases Option.some.inj (hc4.symm.trans hc5)
  obtain ⟨vm', X', st⟩ := X.thenCaughtThrough q (g := F0 m pc ls rest) rfl (Steps.refl _) (by rw [hT]; exact hcell) (by rw [hv]; rfl) (by obtain ⟨k9, h9, -⟩ := Vm.findClass_spec hcl; exact ⟨k9, h9⟩) pre x suf hsplit
    (fun z hz => by
      rcases hpass z hz with h | ⟨hz0, nm, hl1, hn1⟩
      · exact Or.inl h
      · obtain ⟨c6, hc6, hcl6⟩ := Cond.classLink_spec hown hl1 e.platform hpl
        obtain ⟨a8, b8, h1, h2, h3⟩ := hn1
        cases Option.some.inj (h1.symm.trans hcl)
        cases Option.some.inj (h2.symm.trans hc6)
        exact Or.inr ⟨hz0, _, hcl6, h3⟩) hx (Or.inr ⟨h0, c4, hcl5, hasg⟩)
  obtain ⟨t, a1, b1⟩ := kk (T.setVm vm') hT X'
  exact ⟨t, st.trans a1, b1⟩
end Rows
section Ends
variable {p : Program} {l : Launch} {e : Env} {R : Room} {s : State} {m : MethodId} {args : Array Value} {below : List Frame} {meth : Method} {c : Code} {H : Heap} {locs : List Loc} {cells slots : Nat} {Q : State → Prop}
variable {mc ms : Nat} {free : Addr → Prop} {A0 A1 : Nat → Prop} {H0 : Heap} {a : Array Value} {ls : Array Slot} {st0 rest : List Value}
variable {Qc : Array Value → State → Outcome → State → Prop} {XC : String → State → State → Prop}
/-- what a body that may throw owes at its end -/
def vx_MQ (below : List Frame) (Qc : Array Value → State → Outcome → State → Prop) (XC : String → State → State → Prop) (a : Array Value) (s : State) (mc ms : Nat) (free : Addr → Prop) : State → Prop := fun t =>
  ∃ o, t.status = .running ∧ Ended t below o ∧ vx_Q Qc XC mc ms free a s o t
theorem vx_ret {g : JFrame} {mc ms : Nat} (k : W p l e R s m args below meth c H locs cells slots (MQ below Qc args s mc ms free) g) : W p l e R s m args below meth c H locs cells slots (vx_MQ below Qc XC args s mc ms free) g := by
  intro T hT X
  obtain ⟨t, a1, o, b1, b2, b3, b4⟩ := k T hT X
  exact ⟨t, a1, o, b1, b2, Or.inl ⟨b3, b4⟩⟩
/-- not caught here: it goes on to the caller -/
theorem vx_widen {g : JFrame} {q : Addr} {k n : Nat} (h1 : cells ≤ k) (h2 : slots ≤ n) (kk : vx_W p l e R s m args below meth c H locs k n Q g q) : vx_W p l e R s m args below meth c H locs cells slots Q g q := fun T hT X => kk T hT (stand_widen X h1 h2)
theorem vx_out {pc : Nat} {E : String} {ce : Cell} {q : Addr} {mc ms : Nat} (hout : ∀ x ∈ c.exceptionTable.toList, covers x pc = false) (hlocks : meth.locks = false) (hcell : H[q]? = some ce) (hv : ce.vm = .none) (hcl : s.vm.findClass E = some ce.cls)
    (hx : ∀ t : State, t.heap = H → s.vm.Alike t.vm → XC E s t) (hf : ∀ z ∈ locs, free z.base) (hc : cells ≤ mc) (hs : slots ≤ ms) :
    vx_W p l e R s m args below meth c H locs cells slots (vx_MQ below Qc XC args s mc ms free) (F0 m pc ls rest) q := by
  intro T hT X
  obtain ⟨st1, hrun, hend, hW, hsm⟩ := X.leaveThrown q (g := F0 m pc ls rest) rfl rfl rfl hout hlocks
  have hcell9 : (T.setFrames (.throwing q :: below)).heap[q]? = some ce := by
    show T.heap[q]? = some ce
    rw [hT]; exact hcell
  exact ⟨_, st1, .threw q, hrun, hend, Or.inr ⟨q, rfl, E, ce, locs, hx _ hT hW.alike, hcell9, hv, hcl, hW, hsm.mono hc hs, hf⟩⟩
theorem vx_frame {U : State} {k n : Nat} (h : s.sameButNew ({ U with vm := s.vm } : State) locs k n) : s.heap.size ≤ U.heap.size ∧ ∀ q : Nat, q < s.heap.size → (∀ z ∈ locs, z.base ≠ q) → U.heap[q]? = s.heap[q]? := by
  obtain ⟨-, h2, -, -, -, h6⟩ := h
  refine ⟨h2, fun q hq hz => ?_⟩
  obtain ⟨c9, e1, e2, e3, e4⟩ := h6 q _ (Array.getElem?_eq_getElem hq)
  have hs : c9.slots = (s.heap[q]).slots := Array.ext_getElem? fun i => e4 i fun hm => hz _ hm rfl
  have h9 : c9 = s.heap[q] := by
    rw [hs] at e2
    exact e2
  have e5 : U.heap[q]? = some c9 := e1
  rw [e5, h9, Array.getElem?_eq_getElem hq]
/-- the words of a throw but the four that speak of the heap -/
def vx_no (w : Cond) : Bool := decide (w ≠ .isRef (.static Bundle.tN "UNASSIGNED_STACK" Bundle.steD)) && decide (w ≠ .isRef (.static Bundle.tN "SUPPRESSED_SENTINEL" Bundle.listD)) && decide (w ≠ .laysStatic Bundle.tN "UNASSIGNED_STACK" Bundle.steD) && decide (w ≠ .laysStatic Bundle.tN "SUPPRESSED_SENTINEL" Bundle.listD)
def vx_at0 (own : String) (ic : Nat) (X : String) (names : List String) : List Cond := (Bundle.ownAtoms0 own ic X names).filter vx_no
def vx_atS (own : String) (ic : Nat) (X : String) (names : List String) : List Cond := (Bundle.ownAtoms own ic X names).filter vx_no
/-- a word that the tables alone decide, or a good one -/
def vx_ot (w : Cond) : Bool := w.onTables || goodWord w
theorem vx_ot_at {args a' : Array Value} {s U : State} {w : Cond} (hW : s.WarmedH U.vm) (hvm : s.vm = U.vm) (hg : vx_ot w = true) (h : w.before args s = true) : w.before a' U = true := by
  simp only [vx_ot, Bool.or_eq_true] at hg
  rcases hg with hg | hg
  · exact va_tabs hg hvm h
  · exact word_at hW (good_of_word hg) h
/-- a list's words: the good ones out of the method's own list, the others by premises of their own -/
theorem vx_hat {args : Array Value} {s : State} {L B : List Cond} (h1 : ∀ w ∈ L.filter goodWord, w.before args s = true) (h2 : ∀ w ∈ L.filter (fun w => !goodWord w), w ∈ B) (h3 : ∀ w ∈ B, w.before args s = true) : ∀ w ∈ L, w.before args s = true := by
  intro w hw
  by_cases g : goodWord w = true
  · exact h1 w (List.mem_filter.mpr ⟨hw, g⟩)
  · refine h3 w (h2 w (List.mem_filter.mpr ⟨hw, ?_⟩))
    show (!goodWord w) = true
    cases hgw : goodWord w
    · rfl
    · exact absurd hgw g
theorem vx_c {args : Array Value} {s : State} {w : Cond} {B : List Cond} (h : w.before args s = true) (t : ∀ w ∈ B, w.before args s = true) : ∀ w' ∈ w :: B, w'.before args s = true := fun w' h' => (List.mem_cons.mp h').elim (fun e => by rw [e]; exact h) (t w')
theorem vx_n {args : Array Value} {s : State} : ∀ w ∈ ([] : List Cond), w.before args s = true := fun _ h => nomatch h
theorem vx_own {args : Array Value} {s : State} {L : List Cond} (h1 : ∀ w ∈ L.filter vx_no, w.before args s = true)
    (hU : (Cond.isRef (.static Bundle.tN "UNASSIGNED_STACK" Bundle.steD)).before args s = true) (hN : (Cond.isRef (.static Bundle.tN "SUPPRESSED_SENTINEL" Bundle.listD)).before args s = true)
    (lU : (Cond.laysStatic Bundle.tN "UNASSIGNED_STACK" Bundle.steD).before args s = true) (lN : (Cond.laysStatic Bundle.tN "SUPPRESSED_SENTINEL" Bundle.listD).before args s = true) : ∀ w ∈ L, w.before args s = true := by
  intro w hw
  by_cases e1 : w = .isRef (.static Bundle.tN "UNASSIGNED_STACK" Bundle.steD)
  · rw [e1]; exact hU
  · by_cases e2 : w = .isRef (.static Bundle.tN "SUPPRESSED_SENTINEL" Bundle.listD)
    · rw [e2]; exact hN
    · by_cases e3 : w = .laysStatic Bundle.tN "UNASSIGNED_STACK" Bundle.steD
      · rw [e3]; exact lU
      · by_cases e4 : w = .laysStatic Bundle.tN "SUPPRESSED_SENTINEL" Bundle.listD
        · rw [e4]; exact lN
        · exact h1 w (List.mem_filter.mpr ⟨hw, by unfold vx_no; rw [decide_eq_true e1, decide_eq_true e2, decide_eq_true e3, decide_eq_true e4]; rfl⟩)
/-- where a static field lies, its class's statics cell in H -/
def vx_L (C n d : String) (A : Nat → Prop) (U : State) (H : Heap) : Prop := ∃ (c : ClassId) (k : Class) (i : Nat) (f : Field) (a : Nat) (cell : Cell), U.vm.findClass C = some c ∧ U.fieldFound? C n d = some (c, k, i, f) ∧ f.isStatic = true ∧ k.statics = some a ∧ H[a]? = some cell ∧ cell.vm.isStatics = true ∧ cell.cls = c ∧ f.slot < cell.slots.size ∧ k.staticTypes[f.slot]? = some f.type ∧ ¬ A a
theorem vx_L.moved {C n d : String} {A : Nat → Prop} {u U : State} {H : Heap} (hvm : u.vm.Alike U.vm) (h : vx_L C n d A u H) : vx_L C n d A U H := by
  obtain ⟨c, k, i, f, a, cell, h1, h2, h3, h4, h5, h6, h7, h8, h9, h10⟩ := h
  obtain ⟨k', hi', he⟩ := State.fieldFound?_setVm hvm h2
  exact ⟨c, k', i, f, a, cell, by rw [hvm.findClass]; exact h1, hi', h3, by rw [he]; exact h4, h5, h6, h7, h8, by rw [he]; exact h9, h10⟩
theorem vx_L.kept {C n d : String} {A : Nat → Prop} {U : State} {H H1 : Heap} (h : vx_L C n d A U H) (hq : ∀ a : Nat, a < H.size → ¬ A a → H1[a]? = H[a]?) : vx_L C n d A U H1 := by
  obtain ⟨c, k, i, f, a, cell, h1, h2, h3, h4, h5, h6, h7, h8, h9, h10⟩ := h
  exact ⟨c, k, i, f, a, cell, h1, h2, h3, h4, by rw [hq a (Array.getElem?_eq_some_iff.mp h5).1 h10]; exact h5, h6, h7, h8, h9, h10⟩
theorem vx_L.narrow {C n d : String} {A B : Nat → Prop} {U : State} {H : Heap} (h : vx_L C n d A U H) (hAB : ∀ q, B q → A q) : vx_L C n d B U H := by
  obtain ⟨c, k, i, f, a, cell, h1, h2, h3, h4, h5, h6, h7, h8, h9, h10⟩ := h
  exact ⟨c, k, i, f, a, cell, h1, h2, h3, h4, h5, h6, h7, h8, h9, fun z => h10 (hAB _ z)⟩
theorem vx_L.word {C n d : String} {A : Nat → Prop} {s : State} {args : Array Value} (h : vx_L C n d A s s.heap) : (Cond.laysStatic C n d).before args s = true := by
  obtain ⟨c, k, i, f, a, cell, h1, h2, h3, h4, h5, h6, h7, h8, h9, -⟩ := h
  show (Cond.laysStatic C n d).holds args s none s [] = true
  exact Cond.laysStatic_of h1 h2 h3 h4 h5 h6 h7 h8 h9
/-- .. and what it holds: null or some reference -/
def vx_Zq (C n d : String) (A : Nat → Prop) (U : State) (H : Heap) : Prop := va_Zq C n d A U H ∧ vx_L C n d A U H
theorem vx_Zq.moved {C n d : String} {A : Nat → Prop} {u U : State} {H : Heap} (hvm : u.vm.Alike U.vm) (h : vx_Zq C n d A u H) : vx_Zq C n d A U H := ⟨va_Zq.moved hvm h.1, vx_L.moved hvm h.2⟩
theorem vx_Zq.kept {C n d : String} {A : Nat → Prop} {U : State} {H H1 : Heap} (h : vx_Zq C n d A U H) (hq : ∀ a : Nat, a < H.size → ¬ A a → H1[a]? = H[a]?) : vx_Zq C n d A U H1 := ⟨va_Zq.kept h.1 hq, vx_L.kept h.2 hq⟩
theorem vx_Zq.narrow {C n d : String} {A B : Nat → Prop} {U : State} {H : Heap} (h : vx_Zq C n d A U H) (hAB : ∀ q, B q → A q) : vx_Zq C n d B U H := ⟨va_Zq.narrow h.1 hAB, vx_L.narrow h.2 hAB⟩
theorem vx_Zqof {args : Array Value} {s : State} {C n d : String} {A : Nat → Prop} (hl : (Cond.laysStatic C n d).before args s = true) (hini : (Cond.initialized C).before args s = true) (h : (Cond.isRef (.static C n d)).before args s = true) (hA : ∀ a : Nat, a < s.heap.size → ¬ A a) : vx_Zq C n d A s s.heap := by
  refine ⟨va_Zqof hl hini h hA, ?_⟩
  obtain ⟨c, k, i, f, a, cell, h1, h2, h3, h4, h5, h6, h7, h8, h9⟩ := Cond.laysStatic_spec hl
  exact ⟨c, k, i, f, a, cell, h1, h2, h3, h4, h5, h6, h7, h8, h9, hA a (Array.getElem?_eq_some_iff.mp h5).1⟩
theorem vx_isRef {C n d : String} {v : Value} {A : Nat → Prop} {s : State} {args : Array Value} (h : va_Z C n d v A s s.heap) (hv : v.isRef = true) : (Cond.isRef (.static C n d)).before args s = true := by
  obtain ⟨cf, kf, fi, f, a, cell, h1, h2, h3, h4, h5, h6, h7, -⟩ := h
  have he : (Term.static C n d).eval args s none [] s = some v := by
    simp [Term.eval, State.fieldNamed?, h1, h2, h4, h5, h6, h7]
  simp only [Cond.before, Cond.holds, Cond.value, he]
  cases v <;> simp_all [Value.isRef]
theorem vx_isRefq {C n d : String} {A : Nat → Prop} {s : State} {args : Array Value} (h : va_Zq C n d A s s.heap) : (Cond.isRef (.static C n d)).before args s = true := by
  rcases h with h | ⟨t, h⟩
  · exact vx_isRef h rfl
  · exact vx_isRef h rfl
/-- the same frame, seen from here: as if the method were called anew in this heap -/
theorem vx_rebase {T : State} (X : Stand p l e R s m args below meth c T locs cells slots) {R' : Room} (hf : R'.frames ≤ R.frames) (hl : R'.locals ≤ R.locals) (hc : cells + R'.cells ≤ R.cells) (hs : slots + R'.slots ≤ R.slots) :
    Stand p l e R' ((T.setVm s.vm).setFrames (.invoking m args :: below)) m args below meth c T [] 0 0 := by
  have htop : (T.setVm s.vm).topJava?.isSome := X.here.top
  have hF : ((T.setVm s.vm).setFrames (.invoking m args :: below)).frames = .invoking m args :: below := State.frames_setFrames _ (State.cur_lt_of_top htop)
  obtain ⟨g₀, hg0⟩ := Option.isSome_iff_exists.mp htop
  obtain ⟨r, hr⟩ := State.topJava?_eq_some.mp hg0
  have hl9 : e.platform.stackLimits (T.setVm s.vm).me = e.platform.stackLimits s.me := X.limits
  have hb9 : (T.setVm s.vm).me.stackBytes = s.me.stackBytes := X.bytes
  refine ⟨X.admits, X.cas, X.clock, hF, ?_, X.hears, X.method, X.code, X.here, X.tail, X.warmed, ?_, ?_, ?_⟩
  · have h := X.room
    have hU : ((T.setVm s.vm).setFrames (.invoking m args :: below)).localsInUse = s.localsInUse := by
      rw [State.localsInUse_invoking hF (meth := meth) (c := c) X.method X.code, State.localsInUse_invoking X.frames X.method X.code]
    simp only [State.hasRoom, Bool.and_eq_true, decide_eq_true_eq] at h ⊢
    obtain ⟨⟨⟨⟨h1, h2, h3, h4, h5, h6⟩, h7⟩, h8⟩, h9⟩ := h
    rw [X.frames, List.length_cons] at h2 h3
    have q1 := X.heapSize
    have q2 := X.used
    simp only [hF, hU, List.length_cons, State.stackLimits_setFrames, State.stackBytes_setFrames, hl9, hb9]
    refine ⟨⟨⟨⟨by omega, by omega, by omega, by omega, by omega, h6⟩, ?_⟩, ?_⟩, X.book⟩
    · show T.heap.size + R'.cells ≤ e.platform.maxCells
      omega
    · show T.slotsUsed + R'.slots ≤ e.platform.maxSlots
      omega
  · rw [State.stackLimits_setFrames]; rfl
  · rw [State.stackBytes_setFrames]; rfl
  · refine ⟨?_, Nat.le_refl _, Nat.le_refl _, ?_, ?_, fun a c9 h9 => ⟨c9, h9, rfl, rfl, fun _ _ => rfl⟩⟩
    · obtain ⟨t, ht, -⟩ := State.frames_cons hr
      show T.setVm s.vm = { ((T.setVm s.vm).setFrames (.invoking m args :: below)).setFrames (T.setVm s.vm).frames with heap := T.heap, slotsUsed := T.slotsUsed }
      rw [State.setFrames_setFrames, State.setFrames_self ht]
      rfl
    · show T.slotsUsed = T.slotsUsed + ((T.heap.toList.drop T.heap.size).map (·.slots.size)).sum
      rw [List.drop_eq_nil_of_le (Nat.le_of_eq Array.length_toList)]
      rfl
    · show ((T.heap.toList.drop T.heap.size).map (·.slots.size)).sum ≤ 0
      rw [List.drop_eq_nil_of_le (Nat.le_of_eq Array.length_toList)]
      exact Nat.le_refl _
/-- 'throw new E()': new; dup; invokespecial; athrow -/
theorem vx_throw0 {cc : ByteArray} {pc : Nat} (hexec : p.tables.exec = Jvm.exec) (hb : c.code = cc) (hl : l.stackTraces = false) {own cls : String} {names : List String} {ik ic mc ms : Nat} {A : Nat → Prop}
    (hown : s.vm.findClass own = some m.cls) (hcls : Bundle.fit cls = true) (hnames : ∀ n ∈ names, Bundle.fit n = true)
    (hk : (Cond.classLink own ik cls).before args s = true) (hini : (Cond.initialized cls).before args s = true) (hat : ∀ w ∈ vx_at0 own ic cls names, w.before args s = true)
    (hgood : ∀ w ∈ Cond.classLink own ik cls :: Cond.initialized cls :: vx_at0 own ic cls names, vx_ot w = true)
    (hU : vx_Zq Bundle.tN "UNASSIGNED_STACK" Bundle.steD A s s.heap) (hN : vx_Zq Bundle.tN "SUPPRESSED_SENTINEL" Bundle.listD A s s.heap) (hS : va_S A s.heap H locs) (hsize : ls.size = c.maxLocals)
    (d0 : decode cc pc = .ok (.new ik, 3)) (d3 : decode cc (pc + 3) = .ok (.dup, 1)) (d4 : decode cc (pc + 4) = .ok (.invokespecial ic, 3)) (d7 : decode cc (pc + 7) = .ok (.athrow, 1))
    (hout : ∀ x ∈ c.exceptionTable.toList, covers x (pc + 7) = false)
    (hRframes : names.length + 3 < R.frames) (hRlocals : (rest.map fun v => v.category).sum + (13 * (names.length + 1) + 42) ≤ R.locals) (hRcells : cells + 1 ≤ R.cells) (hRslots : slots + 6 ≤ R.slots) (hlocks : meth.locks = false)
    (hx : ∀ t : State, s.vm.Alike t.vm → H.size ≤ t.heap.size → (∀ q : Nat, q < H.size → t.heap[q]? = H[q]?) → XC cls s t)
    (hf : ∀ z ∈ locs, free z.base) (hc : cells + 1 ≤ mc) (hs : slots + 6 ≤ ms) :
    W p l e R s m args below meth c H locs cells slots (vx_MQ below Qc XC args s mc ms free) (F0 m pc ls rest) := by
  intro T hT X
  have htr : e.platform.stackTraces = false := (show e.platform.stackTraces = l.stackTraces by rw [X.admits.platform]).trans hl
  have Y := vx_rebase X (R' := { frames := R.frames, locals := R.locals, cells := 1, slots := 6 }) (Nat.le_refl _) (Nat.le_refl _) hRcells hRslots
  obtain ⟨s', hA⟩ : ∃ z, z = (T.setVm s.vm).setFrames (.invoking m args :: below) := ⟨_, rfl⟩
  rw [← hA] at Y
  have hvm : s'.vm = s.vm := by rw [hA]; rfl
  have hhp : s'.heap = H := by rw [hA]; exact hT
  have hW0 : s.WarmedH s'.vm := by rw [hvm]; exact State.WarmedH.refl s
  have hat' : ∀ w ∈ vx_at0 own ic cls names, w.before args s' = true := fun w hw => vx_ot_at hW0 hvm.symm (hgood w (List.mem_cons_of_mem _ (List.mem_cons_of_mem _ hw))) (hat w hw)
  have hk' : (Cond.classLink own ik cls).before args s' = true := vx_ot_at hW0 hvm.symm (hgood _ List.mem_cons_self) hk
  have hini' : (Cond.initialized cls).before args s' = true := vx_ot_at hW0 hvm.symm (hgood _ (List.mem_cons_of_mem _ List.mem_cons_self)) hini
  have hU' : vx_Zq Bundle.tN "UNASSIGNED_STACK" Bundle.steD A s' s'.heap := by rw [hhp]; exact vx_Zq.moved hW0.alike (hU.kept hS.2.1)
  have hN' : vx_Zq Bundle.tN "SUPPRESSED_SENTINEL" Bundle.listD A s' s'.heap := by rw [hhp]; exact vx_Zq.moved hW0.alike (hN.kept hS.2.1)
  have h : ∀ w ∈ Bundle.ownAtoms0 own ic cls names, w.before args s' = true := vx_own hat' (vx_isRefq hU'.1) (vx_isRefq hN'.1) hU'.2.word hN'.2.word
  have hown' : s'.vm.findClass own = some m.cls := by rw [hvm]; exact hown
  have hins : (Cond.instantiable cls 6).before args s' = true := h _ (by simp [Bundle.ownAtoms0])
  obtain ⟨vm₁, cX, kX, hfX, hkX, -, -, X₁, st1⟩ := Y.newCold hexec (own := own) (C := cls) (index := ik) (n := 6) hown' hk' hins hini'
    (g := F0 m pc ls rest) rfl (by rw [hb]; exact d0) (Nat.le_refl _) (Nat.le_refl _)
  generalize hT1 : (T.setVm vm₁).pushCell { cls := cX, slots := kX.instanceTypes.map defaultValue, vm := .none } = T1 at X₁ st1
  have hcat : (Value.ref T.heap.size).category = 1 := rfl
  have hcellA : T1.heap[T.heap.size]? = some (freshCell cX kX) := by rw [← hT1]; exact State.heap_pushCell_size _ _
  have d3' : decode c.code (pc + 3) = .ok (.dup, 1) := by rw [hb]; exact d3
  obtain ⟨U, hsteps, hrun, hend, hW, hsame, ce, hce, hO⟩ := X₁.ctorThrow0 hexec htr (own := own) (cls := cls) (names := names) (ic := ic) hown' hcls hnames h (fun x hx => nomatch hx) hfX hkX hcellA (by rw [hhp, hT]; exact Nat.le_refl _)
    (g := { method := m, pc := pc + 4, locals := ls, stack := .ref T.heap.size :: .ref T.heap.size :: rest, locked := none }) rfl hsize rfl rfl (rest := rest) rfl
    (by rw [hb]; exact d4) (by rw [hb]; exact d7) hout hRframes (by simp only [List.map_cons, List.sum_cons, hcat]; omega) hlocks
  obtain ⟨f1, f2⟩ := vx_frame hsame
  rw [hhp] at f1 f2
  have hWs : s.WarmedH U.vm := State.WarmedH.trans hW0 hW
  have hcl : s.vm.findClass cls = some ce.cls := by
    have h9 := hO.cls
    rw [hvm] at h9
    exact h9
  have hall : s.sameButNew ({ U with vm := s.vm } : State) locs mc ms := by
    subst hA
    obtain ⟨e1, e2⟩ := hsame
    rw [State.setFrames_setFrames] at e1
    have h2 : (T.setVm s.vm).sameButNew ({ U with vm := s.vm } : State) [] (0 + 1) (0 + 6) := ⟨e1, e2⟩
    have h3 := X.same.trans h2
    rw [List.append_nil] at h3
    exact h3.mono hc hs
  refine ⟨U, ?_, .threw T.heap.size, hrun, hend, Or.inr ⟨T.heap.size, rfl, cls, ce, locs, hx U hWs.alike f1 (fun q hq => f2 q hq (fun z hz => nomatch hz)), hce, hO.vm, hcl, hWs, hall, hf⟩⟩
  refine st1 _ ?_
  show Steps p.tables e below (T1.setTop { method := m, pc := pc + 3, locals := ls, stack := .ref T.heap.size :: rest, locked := none }) _
  jvm_step X₁.here [X₁.here.top, hexec, d3', Value.category]
  exact hsteps
/-- 'throw new E("text")': new; dup; ldc; invokespecial; athrow -/
theorem vx_throwS {cc : ByteArray} {pc : Nat} (hexec : p.tables.exec = Jvm.exec) (hb : c.code = cc) (hl : l.stackTraces = false) {own cls text : String} {names : List String} {ik is ic mc ms sa : Nat} {A : Nat → Prop}
    (hown : s.vm.findClass own = some m.cls) (hcls : Bundle.fit cls = true) (hnames : ∀ n ∈ names, Bundle.fit n = true)
    (hk : (Cond.classLink own ik cls).before args s = true) (hini : (Cond.initialized cls).before args s = true) (hstr : vk_R own is text sa s) (hat : ∀ w ∈ vx_atS own ic cls names, w.before args s = true)
    (hgood : ∀ w ∈ Cond.classLink own ik cls :: Cond.initialized cls :: vx_atS own ic cls names, vx_ot w = true)
    (hU : vx_Zq Bundle.tN "UNASSIGNED_STACK" Bundle.steD A s s.heap) (hN : vx_Zq Bundle.tN "SUPPRESSED_SENTINEL" Bundle.listD A s s.heap) (hS : va_S A s.heap H locs) (hsize : ls.size = c.maxLocals)
    (d0 : decode cc pc = .ok (.new ik, 3)) (d3 : decode cc (pc + 3) = .ok (.dup, 1)) (d4 : decode cc (pc + 4) = .ok (.ldc is, 2)) (d6 : decode cc (pc + 6) = .ok (.invokespecial ic, 3)) (d9 : decode cc (pc + 9) = .ok (.athrow, 1))
    (hout : ∀ x ∈ c.exceptionTable.toList, covers x (pc + 9) = false)
    (hRframes : names.length + 3 < R.frames) (hRlocals : (rest.map fun v => v.category).sum + (13 * (names.length + 1) + 43) ≤ R.locals) (hRcells : cells + 1 ≤ R.cells) (hRslots : slots + 6 ≤ R.slots) (hlocks : meth.locks = false)
    (hx : ∀ t : State, s.vm.Alike t.vm → H.size ≤ t.heap.size → (∀ q : Nat, q < H.size → t.heap[q]? = H[q]?) → XC cls s t)
    (hf : ∀ z ∈ locs, free z.base) (hc : cells + 1 ≤ mc) (hs : slots + 6 ≤ ms) :
    W p l e R s m args below meth c H locs cells slots (vx_MQ below Qc XC args s mc ms free) (F0 m pc ls rest) := by
  intro T hT X
  have htr : e.platform.stackTraces = false := (show e.platform.stackTraces = l.stackTraces by rw [X.admits.platform]).trans hl
  have Y := vx_rebase X (R' := { frames := R.frames, locals := R.locals, cells := 1, slots := 6 }) (Nat.le_refl _) (Nat.le_refl _) hRcells hRslots
  obtain ⟨s', hA⟩ : ∃ z, z = (T.setVm s.vm).setFrames (.invoking m args :: below) := ⟨_, rfl⟩
  rw [← hA] at Y
  have hvm : s'.vm = s.vm := by rw [hA]; rfl
  have hhp : s'.heap = H := by rw [hA]; exact hT
  have hW0 : s.WarmedH s'.vm := by rw [hvm]; exact State.WarmedH.refl s
  have hat' : ∀ w ∈ vx_atS own ic cls names, w.before args s' = true := fun w hw => vx_ot_at hW0 hvm.symm (hgood w (List.mem_cons_of_mem _ (List.mem_cons_of_mem _ hw))) (hat w hw)
  have hk' : (Cond.classLink own ik cls).before args s' = true := vx_ot_at hW0 hvm.symm (hgood _ List.mem_cons_self) hk
  have hini' : (Cond.initialized cls).before args s' = true := vx_ot_at hW0 hvm.symm (hgood _ (List.mem_cons_of_mem _ List.mem_cons_self)) hini
  have hU' : vx_Zq Bundle.tN "UNASSIGNED_STACK" Bundle.steD A s' s'.heap := by rw [hhp]; exact vx_Zq.moved hW0.alike (hU.kept hS.2.1)
  have hN' : vx_Zq Bundle.tN "SUPPRESSED_SENTINEL" Bundle.listD A s' s'.heap := by rw [hhp]; exact vx_Zq.moved hW0.alike (hN.kept hS.2.1)
  have h : ∀ w ∈ Bundle.ownAtoms own ic cls names, w.before args s' = true := vx_own hat' (vx_isRefq hU'.1) (vx_isRefq hN'.1) hU'.2.word hN'.2.word
  have hown' : s'.vm.findClass own = some m.cls := by rw [hvm]; exact hown
  have hins : (Cond.instantiable cls 6).before args s' = true := h _ (by simp [Bundle.ownAtoms])
  obtain ⟨vm₁, cX, kX, hfX, hkX, -, -, X₁, st1⟩ := Y.newCold hexec (own := own) (C := cls) (index := ik) (n := 6) hown' hk' hins hini'
    (g := F0 m pc ls rest) rfl (by rw [hb]; exact d0) (Nat.le_refl _) (Nat.le_refl _)
  generalize hT1 : (T.setVm vm₁).pushCell { cls := cX, slots := kX.instanceTypes.map defaultValue, vm := .none } = T1 at X₁ st1
  have hcat : (Value.ref T.heap.size).category = 1 := rfl
  have hcellA : T1.heap[T.heap.size]? = some (freshCell cX kX) := by rw [← hT1]; exact State.heap_pushCell_size _ _
  have d3' : decode c.code (pc + 3) = .ok (.dup, 1) := by rw [hb]; exact d3
  have d4' : decode c.code (pc + 4) = .ok (.ldc is, 2) := by rw [hb]; exact d4
  have hstr' : vk_R own is text sa s' := vk_R.warm hW0 hstr
  obtain ⟨U, hsteps, hrun, hend, hW, hsame, ce, hce, hO⟩ := X₁.ctorThrowS hexec htr (own := own) (cls := cls) (names := names) (ic := ic) hown' hcls hnames h (fun x hx => nomatch hx) hfX hkX hcellA (by rw [hhp, hT]; exact Nat.le_refl _) (msg := .ref sa) rfl
    (g := { method := m, pc := pc + 6, locals := ls, stack := .ref sa :: .ref T.heap.size :: .ref T.heap.size :: rest, locked := none }) rfl hsize rfl rfl (rest := rest) rfl
    (by rw [hb]; exact d6) (by rw [hb]; exact d9) hout hRframes (by simp only [List.map_cons, List.sum_cons, hcat]; omega) hlocks
  obtain ⟨f1, f2⟩ := vx_frame hsame
  rw [hhp] at f1 f2
  have hWs : s.WarmedH U.vm := State.WarmedH.trans hW0 hW
  have hcl : s.vm.findClass cls = some ce.cls := by
    have h9 := hO.cls
    rw [hvm] at h9
    exact h9
  have hall : s.sameButNew ({ U with vm := s.vm } : State) locs mc ms := by
    subst hA
    obtain ⟨e1, e2⟩ := hsame
    rw [State.setFrames_setFrames] at e1
    have h2 : (T.setVm s.vm).sameButNew ({ U with vm := s.vm } : State) [] (0 + 1) (0 + 6) := ⟨e1, e2⟩
    have h3 := X.same.trans h2
    rw [List.append_nil] at h3
    exact h3.mono hc hs
  refine ⟨U, ?_, .threw T.heap.size, hrun, hend, Or.inr ⟨T.heap.size, rfl, cls, ce, locs, hx U hWs.alike f1 (fun q hq => f2 q hq (fun z hz => nomatch hz)), hce, hO.vm, hcl, hWs, hall, hf⟩⟩
  refine st1 _ ?_
  show Steps p.tables e below (T1.setTop { method := m, pc := pc + 3, locals := ls, stack := .ref T.heap.size :: rest, locked := none }) _
  jvm_step X₁.here [X₁.here.top, hexec, d3', Value.category]
  exact X₁.ldcString hexec (own := own) (text := text) (index := is) (a := sa) hown' hstr'.1 hstr'.2
    (g := { method := m, pc := pc + 4, locals := ls, stack := .ref T.heap.size :: .ref T.heap.size :: rest, locked := none }) rfl d4' _ hsteps
/-- 'throw new E("text")', the text by a wide index -/
theorem vx_throwSW {cc : ByteArray} {pc : Nat} (hexec : p.tables.exec = Jvm.exec) (hb : c.code = cc) (hl : l.stackTraces = false) {own cls text : String} {names : List String} {ik is ic mc ms sa : Nat} {A : Nat → Prop}
    (hown : s.vm.findClass own = some m.cls) (hcls : Bundle.fit cls = true) (hnames : ∀ n ∈ names, Bundle.fit n = true)
    (hk : (Cond.classLink own ik cls).before args s = true) (hini : (Cond.initialized cls).before args s = true) (hstr : vk_R own is text sa s) (hat : ∀ w ∈ vx_atS own ic cls names, w.before args s = true)
    (hgood : ∀ w ∈ Cond.classLink own ik cls :: Cond.initialized cls :: vx_atS own ic cls names, vx_ot w = true)
    (hU : vx_Zq Bundle.tN "UNASSIGNED_STACK" Bundle.steD A s s.heap) (hN : vx_Zq Bundle.tN "SUPPRESSED_SENTINEL" Bundle.listD A s s.heap) (hS : va_S A s.heap H locs) (hsize : ls.size = c.maxLocals)
    (d0 : decode cc pc = .ok (.new ik, 3)) (d3 : decode cc (pc + 3) = .ok (.dup, 1)) (d4 : decode cc (pc + 4) = .ok (.ldc_w is, 3)) (d7 : decode cc (pc + 7) = .ok (.invokespecial ic, 3)) (d10 : decode cc (pc + 10) = .ok (.athrow, 1))
    (hout : ∀ x ∈ c.exceptionTable.toList, covers x (pc + 10) = false)
    (hRframes : names.length + 3 < R.frames) (hRlocals : (rest.map fun v => v.category).sum + (13 * (names.length + 1) + 43) ≤ R.locals) (hRcells : cells + 1 ≤ R.cells) (hRslots : slots + 6 ≤ R.slots) (hlocks : meth.locks = false)
    (hx : ∀ t : State, s.vm.Alike t.vm → H.size ≤ t.heap.size → (∀ q : Nat, q < H.size → t.heap[q]? = H[q]?) → XC cls s t)
    (hf : ∀ z ∈ locs, free z.base) (hc : cells + 1 ≤ mc) (hs : slots + 6 ≤ ms) :
    W p l e R s m args below meth c H locs cells slots (vx_MQ below Qc XC args s mc ms free) (F0 m pc ls rest) := by
  intro T hT X
  have htr : e.platform.stackTraces = false := (show e.platform.stackTraces = l.stackTraces by rw [X.admits.platform]).trans hl
  have Y := vx_rebase X (R' := { frames := R.frames, locals := R.locals, cells := 1, slots := 6 }) (Nat.le_refl _) (Nat.le_refl _) hRcells hRslots
  obtain ⟨s', hA⟩ : ∃ z, z = (T.setVm s.vm).setFrames (.invoking m args :: below) := ⟨_, rfl⟩
  rw [← hA] at Y
  have hvm : s'.vm = s.vm := by rw [hA]; rfl
  have hhp : s'.heap = H := by rw [hA]; exact hT
  have hW0 : s.WarmedH s'.vm := by rw [hvm]; exact State.WarmedH.refl s
  have hat' : ∀ w ∈ vx_atS own ic cls names, w.before args s' = true := fun w hw => vx_ot_at hW0 hvm.symm (hgood w (List.mem_cons_of_mem _ (List.mem_cons_of_mem _ hw))) (hat w hw)
  have hk' : (Cond.classLink own ik cls).before args s' = true := vx_ot_at hW0 hvm.symm (hgood _ List.mem_cons_self) hk
  have hini' : (Cond.initialized cls).before args s' = true := vx_ot_at hW0 hvm.symm (hgood _ (List.mem_cons_of_mem _ List.mem_cons_self)) hini
  have hU' : vx_Zq Bundle.tN "UNASSIGNED_STACK" Bundle.steD A s' s'.heap := by rw [hhp]; exact vx_Zq.moved hW0.alike (hU.kept hS.2.1)
  have hN' : vx_Zq Bundle.tN "SUPPRESSED_SENTINEL" Bundle.listD A s' s'.heap := by rw [hhp]; exact vx_Zq.moved hW0.alike (hN.kept hS.2.1)
  have h : ∀ w ∈ Bundle.ownAtoms own ic cls names, w.before args s' = true := vx_own hat' (vx_isRefq hU'.1) (vx_isRefq hN'.1) hU'.2.word hN'.2.word
  have hown' : s'.vm.findClass own = some m.cls := by rw [hvm]; exact hown
  have hins : (Cond.instantiable cls 6).before args s' = true := h _ (by simp [Bundle.ownAtoms])
  obtain ⟨vm₁, cX, kX, hfX, hkX, -, -, X₁, st1⟩ := Y.newCold hexec (own := own) (C := cls) (index := ik) (n := 6) hown' hk' hins hini'
    (g := F0 m pc ls rest) rfl (by rw [hb]; exact d0) (Nat.le_refl _) (Nat.le_refl _)
  generalize hT1 : (T.setVm vm₁).pushCell { cls := cX, slots := kX.instanceTypes.map defaultValue, vm := .none } = T1 at X₁ st1
  have hcat : (Value.ref T.heap.size).category = 1 := rfl
  have hcellA : T1.heap[T.heap.size]? = some (freshCell cX kX) := by rw [← hT1]; exact State.heap_pushCell_size _ _
  have d3' : decode c.code (pc + 3) = .ok (.dup, 1) := by rw [hb]; exact d3
  have d4' : decode c.code (pc + 4) = .ok (.ldc_w is, 3) := by rw [hb]; exact d4
  have hstr' : vk_R own is text sa s' := vk_R.warm hW0 hstr
  obtain ⟨U, hsteps, hrun, hend, hW, hsame, ce, hce, hO⟩ := X₁.ctorThrowS hexec htr (own := own) (cls := cls) (names := names) (ic := ic) hown' hcls hnames h (fun x hx => nomatch hx) hfX hkX hcellA (by rw [hhp, hT]; exact Nat.le_refl _) (msg := .ref sa) rfl
    (g := { method := m, pc := pc + 7, locals := ls, stack := .ref sa :: .ref T.heap.size :: .ref T.heap.size :: rest, locked := none }) rfl hsize rfl rfl (rest := rest) rfl
    (by rw [hb]; exact d7) (by rw [hb]; exact d10) hout hRframes (by simp only [List.map_cons, List.sum_cons, hcat]; omega) hlocks
  obtain ⟨f1, f2⟩ := vx_frame hsame
  rw [hhp] at f1 f2
  have hWs : s.WarmedH U.vm := State.WarmedH.trans hW0 hW
  have hcl : s.vm.findClass cls = some ce.cls := by
    have h9 := hO.cls
    rw [hvm] at h9
    exact h9
  have hall : s.sameButNew ({ U with vm := s.vm } : State) locs mc ms := by
    subst hA
    obtain ⟨e1, e2⟩ := hsame
    rw [State.setFrames_setFrames] at e1
    have h2 : (T.setVm s.vm).sameButNew ({ U with vm := s.vm } : State) [] (0 + 1) (0 + 6) := ⟨e1, e2⟩
    have h3 := X.same.trans h2
    rw [List.append_nil] at h3
    exact h3.mono hc hs
  refine ⟨U, ?_, .threw T.heap.size, hrun, hend, Or.inr ⟨T.heap.size, rfl, cls, ce, locs, hx U hWs.alike f1 (fun q hq => f2 q hq (fun z hz => nomatch hz)), hce, hO.vm, hcl, hWs, hall, hf⟩⟩
  refine st1 _ ?_
  show Steps p.tables e below (T1.setTop { method := m, pc := pc + 3, locals := ls, stack := .ref T.heap.size :: rest, locked := none }) _
  jvm_step X₁.here [X₁.here.top, hexec, d3', Value.category]
  exact X₁.ldcStringW hexec (own := own) (text := text) (index := is) (a := sa) hown' hstr'.1 hstr'.2
    (g := { method := m, pc := pc + 4, locals := ls, stack := .ref T.heap.size :: .ref T.heap.size :: rest, locked := none }) rfl d4' _ hsteps
end Ends
section Bodies
variable {l : Launch}
theorem vx_ofW {y : MethodName} {ws ws' : List Cond} {rm : Room} {Pc : Array Value → State → Prop} {Qc : Array Value → State → Outcome → State → Prop} {XC : String → State → State → Prop} {mc ms : Nat} {free : Addr → Prop} {cc : ByteArray} {maxL : Nat} {ret : Option FieldType}
    (hy : plainName y.cls = true) (hw : ws = Cond.code y cc maxL ret :: ws')
    (body : ∀ p e s m args below meth c s₁, BodyLoose p l y (headSpec ws rm) cc maxL ret e s m args below meth c s₁ → c.maxLocals = maxL → (∀ x ∈ c.exceptionTable.toList, False) → Pc args s →
      W p l e (headSpec ws rm).room s m args below meth c s.heap [] 0 0 (vx_MQ below Qc XC args s mc ms free) (entryFrame m args maxL)) : vx_Met l y ws rm Pc Qc XC mc ms free := by
  refine MetFree.of_bodyS (code := cc) (maxLocals := maxL) (ret := ret) hy ?_ ?_
  · intro args s m h hn
    obtain ⟨meth, c, h1, h2, h3, h4, h5, h6, -, -⟩ := Cond.code_spec hn (atoms_spec (ws := ws) h _ (by rw [hw]; exact List.mem_cons_self))
    exact ⟨meth, c, h1, h2, h3, h4, h5, h6⟩
  · intro p e s m args below meth c s₁ B hml hP _
    have hh0 : s₁.heap = s.heap := by rw [B.state]; rfl
    have ht : ∀ x ∈ c.exceptionTable.toList, False := by
      obtain ⟨meth9, c9, h1, h2, -, -, -, -, h7, -⟩ := Cond.code_spec B.named (atoms_spec (ws := ws) B.pre _ (by rw [hw]; exact List.mem_cons_self))
      cases Option.some.inj (h1.symm.trans B.method)
      cases Option.some.inj (h2.symm.trans (Stand.of_body B).code)
      intro x hx
      rw [Array.isEmpty_iff.mp h7] at hx
      cases hx
    obtain ⟨t, a1, o, b1, b2, b3⟩ := body p e s m args below meth c s₁ B hml ht hP s₁ hh0 (Stand.of_body B)
    exact ⟨t, o, a1, b1, b2, b3⟩
/-- the table of a body with handlers -/
theorem vx_table {p : Program} {x y : MethodName} {S : Spec} {cc bytes : ByteArray} {maxL maxL' : Nat} {ret ret' : Option FieldType} {e : Env} {s s₁ : State} {m : MethodId} {args : Array Value} {below : List Frame} {meth : Method} {c : Code} {hh : List (Nat × Nat × Nat × Nat)}
    (B : BodyLoose p l y S cc maxL ret e s m args below meth c s₁) (h : (Cond.codeWith y bytes maxL' ret' hh).before args s = true) : c.exceptionTable.toList = tableOf hh := by
  obtain ⟨m9, meth9, c9, hn9, h1, h2, -, -, h6, -⟩ := Cond.codeWith_spec h
  cases Option.some.inj (hn9.symm.trans B.named)
  cases Option.some.inj (h1.symm.trans B.method)
  cases Option.some.inj (h2.symm.trans (Stand.of_body B).code)
  rw [← h6, table_eq]
end Bodies
end VXA
/-! ===== END ===== -/
/-! ===== BEGIN a static call of a method with an exception table ===== -/
section VXS
variable {p : Program} {l : Launch} {e : Env} {R : Room} {s : State} {m : MethodId} {args : Array Value} {below : List Frame} {meth : Method} {c : Code} {T : State} {H : Heap} {locs : List Loc} {cells slots : Nat}
abbrev vx_CSW (R : Room) (s : State) (args : Array Value) (own : String) (index : Nat) (y : MethodName) (bytes : ByteArray) (maxL : Nat) (ret : Option FieldType) (hh : List (Nat × Nat × Nat × Nat)) (ws : List Cond) (rm : Room) (mc ms n : Nat) : Prop :=
  (rm.cells = mc ∧ rm.slots = ms ∧ rm.frames + 1 ≤ R.frames ∧ 8 + (maxL + 11) + rm.locals ≤ R.locals ∧ (∀ w ∈ ws, ∀ (a' : Array Value) (U : State), s.WarmedH U.vm → w.before a' U = true) ∧ Cond.codeWith y bytes maxL ret hh ∈ ws) ∧
  (Cond.codeWith y bytes maxL ret hh).before args s = true ∧ (Cond.initialized y.cls).before args s = true ∧ (y.cls ≠ "java/lang/invoke/MethodHandle" ∧ y.cls ≠ "java/lang/invoke/VarHandle") ∧
  (∀ sig, parseMethodDescriptor y.desc = some sig → n = sig.parameters.length) ∧ (Cond.methodLink own index y).before args s = true ∧ (Cond.static y).before args s = true
theorem vx_cwSW {own : String} {index maxL mc ms : Nat} {y : MethodName} {bytes : ByteArray} {ret : Option FieldType} {hh : List (Nat × Nat × Nat × Nat)} {Ts ws ws' : List Cond} {rm : Room} (n : Nat) (ht : ∀ w ∈ Ts, w.before args s = true) (hT : GoodIn Ts (va_wsS own index y ws)) (hw : ws = Cond.codeWith y bytes maxL ret hh :: ws') (hrc : rm.cells = mc) (hrs : rm.slots = ms)
    (hd : y.cls ≠ "java/lang/invoke/MethodHandle" ∧ y.cls ≠ "java/lang/invoke/VarHandle" ∧ (parseMethodDescriptor y.desc).map (fun d => d.parameters.length) = some n) (hR : rm.frames + 1 ≤ R.frames ∧ 8 + (maxL + 11) + rm.locals ≤ R.locals) :
    vx_CSW R s args own index y bytes maxL ret hh ws rm mc ms n := by
  have ok : ∀ w ∈ va_wsS own index y ws, w.before args s = true := fun w h => ht w (hT w h).1
  have hG : GoodIn Ts ws := fun w h => hT w (by unfold va_wsS; exact List.mem_append_right _ h)
  have hc : Cond.codeWith y bytes maxL ret hh ∈ ws := by rw [hw]; exact List.mem_cons_self
  refine ⟨⟨hrc, hrs, hR.1, hR.2, pay_in ht hG, hc⟩, ht _ (hG _ hc).1, ok _ (by simp [va_wsS]), ⟨hd.1, hd.2.1⟩, fun sig h => ?_, ok _ (by simp [va_wsS]), ok _ (by simp [va_wsS])⟩
  have h2 := hd.2.2
  rw [h] at h2
  exact (Option.some.inj h2).symm
theorem vx_callSW (X : Stand p l e R s m args below meth c T locs cells slots) (hexec : p.tables.exec = Jvm.exec) {own : String} {index : Nat} {y : MethodName} {bytes : ByteArray} {maxL : Nat} {ret : Option FieldType} {hh : List (Nat × Nat × Nat × Nat)}
    (hown : s.vm.findClass own = some m.cls) (hlink : (Cond.methodLink own index y).before args s = true) (hstat : (Cond.static y).before args s = true) (hinit : (Cond.initialized y.cls).before args s = true)
    (hcode : (Cond.codeWith y bytes maxL ret hh).before args s = true) (hy : y.cls ≠ "java/lang/invoke/MethodHandle" ∧ y.cls ≠ "java/lang/invoke/VarHandle")
    {W9 : Nat} {Pre : Pt → Array Value → Prop} {Post : Pt → Array Value → Option Value → Pt → Prop} (hK : Back l R p e below s args y 3 W9 Pre Post)
    {g : JFrame} (hg : g.method = m) (hsize : g.locals.size = c.maxLocals) {argsL rest : List Value} (hlen : ∀ sig, parseMethodDescriptor y.desc = some sig → argsL.length = sig.parameters.length)
    (hstack : g.stack = argsL.reverse ++ rest) (hW : 2 * g.monitorRoom + (rest.map fun v => v.category).sum ≤ W9) (hdg : decode c.code g.pc = .ok (.invokestatic index, 3))
    (hpre : ∀ vm₁, s.WarmedH vm₁ → Pre ⟨T.setVm vm₁, locs, cells, slots⟩ argsL.toArray) :
    ∃ (v : Option Value) (vm₁ : Vm) (B : Pt), s.WarmedH vm₁ ∧ Stand p l e R s m args below meth c B.U B.locs B.cells B.slots ∧ Post ⟨T.setVm vm₁, locs, cells, slots⟩ argsL.toArray v B ∧
      ∀ target, Steps p.tables e below (B.U.setTop { g with pc := g.pc + 3, stack := v.toList ++ rest }) target → Steps p.tables e below (T.setTop g) target := by
  obtain ⟨mk, methM, cM, hnamed, hmethM, -, -, -, -, -, -, hsigM⟩ := Cond.codeWith_spec hcode
  have hstatic : methM.isStatic = true := Cond.static_spec hnamed hmethM hstat
  obtain ⟨kP, hkP, -⟩ := className_of_methodNamed hnamed
  have hinitP : kP.init = .initialized := Cond.initialized_spec (findClass_of_methodNamed hnamed) hkP hinit
  obtain ⟨vm₁, X₁, hstep₁⟩ := X.invokestatic hexec hown hlink hnamed hmethM hstatic hkP hinitP hy (g := g) hg (argsL := argsL) (rest := rest) (hlen _ hsigM) hstack hdg
  obtain ⟨v, B, X', hpost, hsteps⟩ := hK m meth c ⟨T.setVm vm₁, locs, cells, slots⟩ { g with stack := rest } (.invokestatic index) mk argsL.toArray X₁ hg hsize hdg hW (X₁.named hnamed) (hpre vm₁ X₁.warmed)
  exact ⟨v, vm₁, B, X₁.warmed, X', hpost, fun target h => hstep₁ _ fun acts => by rw [doInvoke_state]; exact hsteps.trans h⟩
theorem vx_runSW {y : MethodName} {bytes cc : ByteArray} {maxL nL mc ms n index : Nat} {ret : Option FieldType} {hh : List (Nat × Nat × Nat × Nat)} {ws : List Cond} {rm : Room} {Pc : Array Value → State → Prop} {Qc : Array Value → State → Outcome → State → Prop} {free : Addr → Prop} {Ts : List Cond} {own : String} {As rest : List Value} {g : JFrame}
    (S : CallFix p m c cc nL s args Ts own) (hM : Met l y ws rm Pc Qc mc ms free) (cw : vx_CSW R s args own index y bytes maxL ret hh ws rm mc ms n) (hp : PreS s H Pc As)
    (hg : g.method = m) (hn : As.length = n) (hsize : g.locals.size = nL) (hstack : g.stack = As.reverse ++ rest) (hW : 2 * g.monitorRoom + (rest.map fun v => v.category).sum ≤ 8) (hdg : decode cc g.pc = .ok (.invokestatic index, 3)) (hf : cells + mc ≤ R.cells ∧ slots + ms ≤ R.slots) :
    va_Run p l e R s m args below meth c H locs cells slots mc ms g rest (Qc As.toArray) (free) := by
  obtain ⟨⟨hrc, hrs, hfr, hlo, hws, hcw⟩, hcode, hini, hy, hlen, hl, hstt⟩ := cw
  have hK : Back l R p e below s args y 3 8 (PreOf R mc ms Pc) (PostOf Qc mc ms free) := va_backW (hh := hh) (bytes := bytes) (maxL := maxL) (ret := ret) hM hp.1 hrc hrs hfr hlo hws hcw (fun a' U hW => word_at hW (Or.inl (by first | rfl | simp [Cond.onTables, Cond.keeps, Cond.steady])) hini)
  obtain ⟨hx, hb, hml, ho, -⟩ := S
  intro T hT X
  obtain ⟨v, vm₁, ⟨U', l2, c2, s2⟩, hW₁, X', ⟨g', mk, t, L, e1, e2, hq, h1, hL, h2, h3⟩, st⟩ := vx_callSW X hx (hh := hh) (bytes := bytes) (maxL := maxL) (ret := ret) ho hl hstt hini hcode hy hK hg (hsize.trans hml.symm) (argsL := As) (rest := rest) (fun sig h => hn.trans (hlen sig h)) hstack hW (by rw [hb]; exact hdg)
    (fun vm₁ hW₁ => ⟨hf.1, hf.2, hp.2 (T.setVm vm₁) hT hW₁⟩)
  dsimp only [Pt.U, Pt.locs, Pt.cells, Pt.slots] at X' e1 e2 h1 h2 h3 st
  subst h1; subst h2; subst h3
  exact ⟨v, (T.setVm vm₁).calling g' mk As.toArray, t, U', L, hT, X', hL, e1, e2, hq, st⟩
/-- not caught here, past rows that name other classes: it goes on to the caller -/
theorem vx_outP {p : Program} {l : Launch} {e : Env} {R : Room} {s : State} {m : MethodId} {args : Array Value} {below : List Frame} {meth : Method} {c : Code} {H : Heap} {locs : List Loc} {cells slots : Nat} {free : Addr → Prop} {ls : Array Slot} {rest : List Value} {Qc : Array Value → State → Outcome → State → Prop} {XC : String → State → State → Prop}
    {pc : Nat} {own E : String} {ce : Cell} {q : Addr} {mc ms : Nat} (hown : s.vm.findClass own = some m.cls) (hlocks : meth.locks = false)
    (hpass : ∀ z ∈ c.exceptionTable.toList, covers z pc = false ∨ (z.catchType ≠ 0 ∧ ∃ nm : String, (Cond.classLink own z.catchType nm).before args s = true ∧ va_Nc E nm s)) (hcell : H[q]? = some ce) (hv : ce.vm = .none) (hcl : s.vm.findClass E = some ce.cls)
    (hx : ∀ t : State, t.heap = H → s.vm.Alike t.vm → XC E s t) (hf : ∀ z ∈ locs, free z.base) (hc : cells ≤ mc) (hs : slots ≤ ms) :
    vx_W p l e R s m args below meth c H locs cells slots (vx_MQ below Qc XC args s mc ms free) (F0 m pc ls rest) q := by
  intro T hT X
  have hpl : e.platform.magicAccessors = ({} : Platform).magicAccessors := by rw [X.admits.platform]
  obtain ⟨vm', hW', X', st⟩ := X.outThrough hlocks q (g := F0 m pc ls rest) rfl rfl rfl (cell := ce) (by rw [hT]; exact hcell) (by rw [hv]; rfl)
    (by obtain ⟨k9, h9, -⟩ := Vm.findClass_spec hcl; exact ⟨k9, h9⟩) (fun z hz => by
      rcases hpass z hz with h | ⟨hz0, nm, hl1, hn1⟩
      · exact Or.inl h
      · obtain ⟨c6, hc6, hcl6⟩ := Cond.classLink_spec hown hl1 e.platform hpl
        obtain ⟨a8, b8, h1, h2, h3⟩ := hn1
        cases Option.some.inj (h1.symm.trans hcl)
        cases Option.some.inj (h2.symm.trans hc6)
        exact Or.inr ⟨hz0, _, hcl6, h3⟩)
  obtain ⟨g₀, hfr⟩ := X'.frames_eq
  have hcell9 : ((T.setVm vm').setFrames (.throwing q :: below)).heap[q]? = some ce := by
    show T.heap[q]? = some ce
    rw [hT]; exact hcell
  have hend : Ended ((T.setVm vm').setFrames (.throwing q :: below)) below (.threw q) := State.frames_setFrames _ (State.cur_lt_of_frames hfr)
  refine ⟨(T.setVm vm').setFrames (.throwing q :: below), ?_, .threw q, X'.here.running, hend, Or.inr ⟨q, rfl, E, ce, locs, hx _ hT (X'.ends _).1.alike, hcell9, hv, hcl, (X'.ends _).1, (X'.ends _).2.mono hc hs, hf⟩⟩
  rw [X.pushThrowing_eq]
  exact st
/-- a thing of a world lies in the heap -/
theorem vx_lt {D : va_G} {cl : List vw_C} {ws : va_W} {H1 : Heap} (h : va_P D cl ws H1) {k : Nat} {q : Nat × va_E} (hk : ws[k]? = some q) : q.1 < H1.size := (h k q hk).lt
end VXS
/-! ===== END ===== -/
/-! ===== BEGIN methods with a table of their own: called by a name, returning or throwing ===== -/
section VXH
/-! vx_backW, vx_callVX, vx_callSX, vx_callVW, vx_runVW, vx_runVX, vx_runSX, vx_ofWH follow the same proofs as their sisters above (Free/Laws.lean, Shelf42/LK1.lean); vx_outP calls Shelf42/NT130.lean (outThrough). -/
section
variable {l : Launch} {R : Room} {p : Program} {e : Env} {below : List Frame} {s : State} {sargs : Array Value} {y : MethodName} {len W9 : Nat}
theorem vx_backW {ws : List Cond} {rm : Room} {Pc : Array Value → State → Prop} {Qc : Array Value → State → Outcome → State → Prop} {XC : String → State → State → Prop} {mc ms : Nat} {free : Addr → Prop} {bytes : ByteArray} {maxL : Nat} {ret : Option FieldType} {hh : List (Nat × Nat × Nat × Nat)}
    (hM : vx_Met l y ws rm Pc Qc XC mc ms free) (hblind : FrameBlind Pc) (hrc : rm.cells = mc) (hrs : rm.slots = ms)
    (hframes : rm.frames + 1 ≤ R.frames) (hlocals : W9 + (maxL + 11) + rm.locals ≤ R.locals)
    (hws : ∀ w ∈ ws, ∀ a' U, s.WarmedH U.vm → w.before a' U = true) (hcode : Cond.codeWith y bytes maxL ret hh ∈ ws) (hinit : ∀ a' U, s.WarmedH U.vm → (Cond.initialized y.cls).before a' U = true) :
    vx_Back l R p e below s sargs y len W9 (PreOf R mc ms Pc) (PostOf Qc mc ms free) (vx_Post XC mc ms free) := by
  intro m meth c A g ig mk a X hg hsize hdg hW hn hp
  have h1 : (headSpec ws rm).pre.before a A.U = true := atoms_intro fun w hw => hws w hw _ _ X.warmed
  have h2 : (Cond.codeWith y bytes maxL ret hh).before a A.U = true := hws _ hcode _ _ X.warmed
  have h3 : (Cond.initialized y.cls).before a A.U = true := hinit _ _ X.warmed
  have h4 : A.cells + (headSpec ws rm).room.cells ≤ R.cells := by rw [show (headSpec ws rm).room.cells = mc from hrc]; exact hp.1
  have h5 : A.slots + (headSpec ws rm).room.slots ≤ R.slots := by rw [show (headSpec ws rm).room.slots = ms from hrs]; exact hp.2.1
  have hPc : Pc a (A.U.calling g mk a) := hblind _ _ _ _ hp.2.2
  obtain ⟨U, Ls, c0, s0⟩ := A
  dsimp only [Pt.U, Pt.locs, Pt.cells, Pt.slots] at h1 h2 h3 h4 h5 X hn hPc ⊢
  obtain ⟨m9, methY, cY, hn9, hmY, hcY, -, hlY, -⟩ := Cond.codeWith_spec h2
  cases Option.some.inj (hn9.symm.trans hn)
  obtain ⟨kY, hkY, -⟩ := className_of_methodNamed hn
  have hinitY : kY.init = .initialized := Cond.initialized_spec (findClass_of_methodNamed hn) hkY h3
  have h : At U g.method c below := by rw [hg]; exact X.here
  have hlocals9 : W9 + (maxL + 11) + (headSpec ws rm).room.locals ≤ R.locals := hlocals
  have happ : (headSpec ws rm).appliesLoose y e.platform (U.calling g mk a) = true :=
    Spec.appliesLoose_calling (g := g) h hdg hn hkY hinitY
      (X.room_calling (g := g) (R' := (headSpec ws rm).room) hsize hmY hcY hframes (by rw [hlY]; omega) h4 h5) h1
  obtain ⟨mid, hmid⟩ := h.above
  have hfr : (U.setTop g).frames = (.java g :: mid) ++ below := by rw [State.frames_setTop' g h.top, hmid]; rfl
  obtain ⟨o, s₂, hsteps, -, hend, hq⟩ := Steps.callFree hM p X.admits X.cas X.clock (acts := []) hfr happ hPc trivial
  have hq' : vx_Q Qc XC mc ms free a (U.calling g mk a) o s₂ := hq
  rw [State.frames_setTop' g h.top] at hend
  obtain ⟨g₀, hg0⟩ := Option.isSome_iff_exists.mp h.top
  obtain ⟨r, hr⟩ := State.topJava?_eq_some.mp hg0
  have hr' : (({ U with heap := s₂.heap, slotsUsed := s₂.slotsUsed } : State).setVm s₂.vm).frames = .java g₀ :: r := hr
  rcases hq' with ⟨hqc, L, hfe, hL⟩ | ⟨q, rfl, E, ce, L, hx, hce, hcv, hcl, hW₂, hsm, hL⟩
  · obtain ⟨⟨v, rfl⟩, hW₂, e2, q2, q3, q4, q5, q6⟩ := id hfe
    have e3 : s₂ = ({ (U.calling g mk a).setFrames s₂.frames with heap := s₂.heap, slotsUsed := s₂.slotsUsed } : State).setVm s₂.vm := by
      have : s₂ = ({ s₂ with vm := (U.calling g mk a).vm } : State).setVm s₂.vm := rfl
      rw [e2] at this
      exact this
    obtain ⟨c₂, i₂, len₂, hc₂, hd₂, hf₂⟩ := hend
    have hW' : U.WarmedH s₂.vm := hW₂
    have hcc : c₂ = c := by
      have h1 : s₂.code? g.method = U.code? g.method := by
        rw [State.code?_eq, State.code?_eq, hW'.alike.method?]
      exact Option.some.inj (hc₂.symm.trans (h1.trans h.code))
    subst hcc
    have hlen : len₂ = len := by rw [hdg] at hd₂; cases hd₂; rfl
    subst hlen
    have hs₂ : s₂ = (({ U with heap := s₂.heap, slotsUsed := s₂.slotsUsed } : State).setVm s₂.vm).setTop { g with pc := g.pc + len₂, stack := v.toList ++ g.stack } := by
      refine e3.trans ?_
      rw [hf₂, State.calling_eq h.top, State.setFrames_setFrames, State.setTop_of_frames _ hr', hr]
      rfl
    have hsame : U.sameButNew ({ U with heap := s₂.heap, slotsUsed := s₂.slotsUsed } : State) L mc ms := by
      refine ⟨?_, q2, q3, q4, q5, q6⟩
      obtain ⟨t, ht, -⟩ := State.frames_cons hr
      show ({ U with heap := s₂.heap, slotsUsed := s₂.slotsUsed } : State) = { U.setFrames U.frames with heap := s₂.heap, slotsUsed := s₂.slotsUsed }
      rw [State.setFrames_self ht]
    subst hg
    refine Or.inl ⟨v, ⟨(({ U with heap := s₂.heap, slotsUsed := s₂.slotsUsed } : State).setVm s₂.vm), Ls ++ L, c0 + mc, s0 + ms⟩,
      ⟨X.admits, X.cas, X.clock, X.frames, X.room, X.hears, X.method, X.code, (X.here.setHeapUsed s₂.heap s₂.slotsUsed).setVm hW'.alike, X.tail, State.WarmedH.trans X.warmed hW', X.limits, X.bytes, X.same.trans (hsame.setVm s.vm)⟩,
      ⟨g, mk, s₂, L, rfl, rfl, hqc, rfl, hL, rfl, rfl⟩, ?_⟩
    show Steps p.tables e below _ ((({ U with heap := s₂.heap, slotsUsed := s₂.slotsUsed } : State).setVm s₂.vm).setTop { g with pc := g.pc + len₂, stack := v.toList ++ g.stack })
    rw [← hs₂]
    exact hsteps
  · obtain ⟨e2, q2, q3, q4, q5, q6⟩ := id hsm
    have e3 : s₂ = ({ (U.calling g mk a).setFrames s₂.frames with heap := s₂.heap, slotsUsed := s₂.slotsUsed } : State).setVm s₂.vm := by
      have : s₂ = ({ s₂ with vm := (U.calling g mk a).vm } : State).setVm s₂.vm := rfl
      rw [e2] at this
      exact this
    have hf₂ : s₂.frames = .throwing q :: .java g :: U.frames.tail := hend
    have hW' : U.WarmedH s₂.vm := hW₂
    have hs₂ : s₂ = ((({ U with heap := s₂.heap, slotsUsed := s₂.slotsUsed } : State).setVm s₂.vm).setTop g).pushFrame (.throwing q) := by
      refine e3.trans ?_
      rw [hf₂, State.calling_eq h.top, State.setFrames_setFrames, State.pushFrame, State.frames_setTop _ hr', State.setTop_of_frames _ hr', State.setFrames_setFrames, hr]
      rfl
    have hsame : U.sameButNew ({ U with heap := s₂.heap, slotsUsed := s₂.slotsUsed } : State) L mc ms := by
      refine ⟨?_, q2, q3, q4, q5, q6⟩
      obtain ⟨t, ht, -⟩ := State.frames_cons hr
      show ({ U with heap := s₂.heap, slotsUsed := s₂.slotsUsed } : State) = { U.setFrames U.frames with heap := s₂.heap, slotsUsed := s₂.slotsUsed }
      rw [State.setFrames_self ht]
    subst hg
    refine Or.inr ⟨q, ⟨(({ U with heap := s₂.heap, slotsUsed := s₂.slotsUsed } : State).setVm s₂.vm), Ls ++ L, c0 + mc, s0 + ms⟩,
      ⟨X.admits, X.cas, X.clock, X.frames, X.room, X.hears, X.method, X.code, (X.here.setHeapUsed s₂.heap s₂.slotsUsed).setVm hW'.alike, X.tail, State.WarmedH.trans X.warmed hW', X.limits, X.bytes, X.same.trans (hsame.setVm s.vm)⟩,
      ⟨g, mk, s₂, L, E, ce, rfl, rfl, hx, hce, hcv, hcl, rfl, hL, rfl, rfl⟩, ?_⟩
    show Steps p.tables e below _ (((({ U with heap := s₂.heap, slotsUsed := s₂.slotsUsed } : State).setVm s₂.vm).setTop g).pushFrame (.throwing q))
    rw [← hs₂]
    exact hsteps
end
variable {p : Program} {l : Launch} {e : Env} {R : Room} {s : State} {m : MethodId} {args : Array Value} {below : List Frame} {meth : Method} {c : Code} {T : State} {H : Heap} {locs : List Loc} {cells slots : Nat}
theorem vx_callVX (X : Stand p l e R s m args below meth c T locs cells slots) (hexec : p.tables.exec = Jvm.exec) {own C : String} {index : Nat} {y : MethodName} {bytes : ByteArray} {maxL : Nat} {ret : Option FieldType} {hh : List (Nat × Nat × Nat × Nat)}
    (hown : s.vm.findClass own = some m.cls) (hlink : (Cond.methodLink own index y).before args s = true) (hinst : (Cond.instanceMethod y).before args s = true) (hsel : (Cond.selects C y y).before args s = true)
    (hcode : (Cond.codeWith y bytes maxL ret hh).before args s = true) (hy : y.cls ≠ "java/lang/invoke/MethodHandle" ∧ y.cls ≠ "java/lang/invoke/VarHandle")
    {W9 : Nat} {Pre : Pt → Array Value → Prop} {Post : Pt → Array Value → Option Value → Pt → Prop} {PostX : Pt → Array Value → Addr → Pt → Prop} (hK : vx_Back l R p e below s args y 3 W9 Pre Post PostX)
    {b : Addr} {cellB : Cell} (hcell : T.heap[b]? = some cellB) (hobj : cellB.vm.isStatics = false) (hcls : s.vm.findClass C = some cellB.cls)
    {g : JFrame} (hg : g.method = m) (hsize : g.locals.size = c.maxLocals) {argsL rest : List Value} (hlen : ∀ sig, parseMethodDescriptor y.desc = some sig → argsL.length = sig.parameters.length)
    (hstack : g.stack = argsL.reverse ++ .ref b :: rest) (hW : 2 * g.monitorRoom + (rest.map fun v => v.category).sum ≤ W9) (hdg : decode c.code g.pc = .ok (.invokevirtual index, 3))
    (hpre : ∀ vm₁, s.WarmedH vm₁ → Pre ⟨T.setVm vm₁, locs, cells, slots⟩ (Value.ref b :: argsL).toArray) :
    (∃ (v : Option Value) (vm₁ : Vm) (B : Pt), s.WarmedH vm₁ ∧ Stand p l e R s m args below meth c B.U B.locs B.cells B.slots ∧ Post ⟨T.setVm vm₁, locs, cells, slots⟩ (Value.ref b :: argsL).toArray v B ∧
      ∀ target, Steps p.tables e below (B.U.setTop { g with pc := g.pc + 3, stack := v.toList ++ rest }) target → Steps p.tables e below (T.setTop g) target) ∨
    (∃ (q : Addr) (vm₁ : Vm) (B : Pt), s.WarmedH vm₁ ∧ Stand p l e R s m args below meth c B.U B.locs B.cells B.slots ∧ PostX ⟨T.setVm vm₁, locs, cells, slots⟩ (Value.ref b :: argsL).toArray q B ∧
      Steps p.tables e below (T.setTop g) ((B.U.setTop { g with stack := rest }).pushFrame (.throwing q))) := by
  obtain ⟨mk, methM, hnamed, hmethM, hstM, habM⟩ := Cond.instanceMethod_spec hinst
  obtain ⟨m8, methM', cM, hn8, hmethM', -, -, -, -, -, -, hsigM⟩ := Cond.codeWith_spec hcode
  cases Option.some.inj (hn8.symm.trans hnamed)
  cases hmethM.symm.trans hmethM'
  obtain ⟨c2, r2, m2, q1, q2, q3, q4, kP, hkP, hkPi⟩ := Cond.selects_spec hsel
  cases hcls.symm.trans q1
  cases (State.methodFound?_of_named hnamed hy).symm.trans q2
  cases hnamed.symm.trans q3
  have hselP : selectMethod e.platform s.vm cellB.cls mk = .method mk := by rw [Launch.admits_selectMethod X.admits]; exact q4
  obtain ⟨vm₁, X₁, hstep₁⟩ := X.invokevirtual hexec hown hlink hnamed hmethM hstM hkP hkPi hy (a := b) (cell := cellB) hcell
    (fun z h => by rw [h] at hobj; cases hobj) hselP hmethM habM hkP hkPi (g := g) hg (argsL := argsL) (rest := rest) (hlen _ hsigM) hstack hdg
  rcases hK m meth c ⟨T.setVm vm₁, locs, cells, slots⟩ { g with stack := rest } (.invokevirtual index) mk (Value.ref b :: argsL).toArray X₁ hg hsize hdg hW (X₁.named hnamed) (hpre vm₁ X₁.warmed) with ⟨v, B, X', hpost, hsteps⟩ | ⟨q, B, X', hpost, hsteps⟩
  · exact Or.inl ⟨v, vm₁, B, X₁.warmed, X', hpost, fun target h => hstep₁ _ fun acts => by rw [doInvoke_state]; exact hsteps.trans h⟩
  · exact Or.inr ⟨q, vm₁, B, X₁.warmed, X', hpost, hstep₁ _ fun acts => by rw [doInvoke_state]; exact hsteps⟩
theorem vx_callSX (X : Stand p l e R s m args below meth c T locs cells slots) (hexec : p.tables.exec = Jvm.exec) {own : String} {index : Nat} {y : MethodName} {bytes : ByteArray} {maxL : Nat} {ret : Option FieldType} {hh : List (Nat × Nat × Nat × Nat)}
    (hown : s.vm.findClass own = some m.cls) (hlink : (Cond.methodLink own index y).before args s = true) (hstat : (Cond.static y).before args s = true) (hinit : (Cond.initialized y.cls).before args s = true)
    (hcode : (Cond.codeWith y bytes maxL ret hh).before args s = true) (hy : y.cls ≠ "java/lang/invoke/MethodHandle" ∧ y.cls ≠ "java/lang/invoke/VarHandle")
    {W9 : Nat} {Pre : Pt → Array Value → Prop} {Post : Pt → Array Value → Option Value → Pt → Prop} {PostX : Pt → Array Value → Addr → Pt → Prop} (hK : vx_Back l R p e below s args y 3 W9 Pre Post PostX)
    {g : JFrame} (hg : g.method = m) (hsize : g.locals.size = c.maxLocals) {argsL rest : List Value} (hlen : ∀ sig, parseMethodDescriptor y.desc = some sig → argsL.length = sig.parameters.length)
    (hstack : g.stack = argsL.reverse ++ rest) (hW : 2 * g.monitorRoom + (rest.map fun v => v.category).sum ≤ W9) (hdg : decode c.code g.pc = .ok (.invokestatic index, 3))
    (hpre : ∀ vm₁, s.WarmedH vm₁ → Pre ⟨T.setVm vm₁, locs, cells, slots⟩ argsL.toArray) :
    (∃ (v : Option Value) (vm₁ : Vm) (B : Pt), s.WarmedH vm₁ ∧ Stand p l e R s m args below meth c B.U B.locs B.cells B.slots ∧ Post ⟨T.setVm vm₁, locs, cells, slots⟩ argsL.toArray v B ∧
      ∀ target, Steps p.tables e below (B.U.setTop { g with pc := g.pc + 3, stack := v.toList ++ rest }) target → Steps p.tables e below (T.setTop g) target) ∨
    (∃ (q : Addr) (vm₁ : Vm) (B : Pt), s.WarmedH vm₁ ∧ Stand p l e R s m args below meth c B.U B.locs B.cells B.slots ∧ PostX ⟨T.setVm vm₁, locs, cells, slots⟩ argsL.toArray q B ∧
      Steps p.tables e below (T.setTop g) ((B.U.setTop { g with stack := rest }).pushFrame (.throwing q))) := by
  obtain ⟨mk, methM, cM, hnamed, hmethM, -, -, -, -, -, -, hsigM⟩ := Cond.codeWith_spec hcode
  have hstatic : methM.isStatic = true := Cond.static_spec hnamed hmethM hstat
  obtain ⟨kP, hkP, -⟩ := className_of_methodNamed hnamed
  have hinitP : kP.init = .initialized := Cond.initialized_spec (findClass_of_methodNamed hnamed) hkP hinit
  obtain ⟨vm₁, X₁, hstep₁⟩ := X.invokestatic hexec hown hlink hnamed hmethM hstatic hkP hinitP hy (g := g) hg (argsL := argsL) (rest := rest) (hlen _ hsigM) hstack hdg
  rcases hK m meth c ⟨T.setVm vm₁, locs, cells, slots⟩ { g with stack := rest } (.invokestatic index) mk argsL.toArray X₁ hg hsize hdg hW (X₁.named hnamed) (hpre vm₁ X₁.warmed) with ⟨v, B, X', hpost, hsteps⟩ | ⟨q, B, X', hpost, hsteps⟩
  · exact Or.inl ⟨v, vm₁, B, X₁.warmed, X', hpost, fun target h => hstep₁ _ fun acts => by rw [doInvoke_state]; exact hsteps.trans h⟩
  · exact Or.inr ⟨q, vm₁, B, X₁.warmed, X', hpost, hstep₁ _ fun acts => by rw [doInvoke_state]; exact hsteps⟩
theorem vx_callVW (X : Stand p l e R s m args below meth c T locs cells slots) (hexec : p.tables.exec = Jvm.exec) {own C : String} {index : Nat} {y : MethodName} {bytes : ByteArray} {maxL : Nat} {ret : Option FieldType} {hh : List (Nat × Nat × Nat × Nat)}
    (hown : s.vm.findClass own = some m.cls) (hlink : (Cond.methodLink own index y).before args s = true) (hinst : (Cond.instanceMethod y).before args s = true) (hsel : (Cond.selects C y y).before args s = true)
    (hcode : (Cond.codeWith y bytes maxL ret hh).before args s = true) (hy : y.cls ≠ "java/lang/invoke/MethodHandle" ∧ y.cls ≠ "java/lang/invoke/VarHandle")
    {W9 : Nat} {Pre : Pt → Array Value → Prop} {Post : Pt → Array Value → Option Value → Pt → Prop} (hK : Back l R p e below s args y 3 W9 Pre Post)
    {b : Addr} {cellB : Cell} (hcell : T.heap[b]? = some cellB) (hobj : cellB.vm.isStatics = false) (hcls : s.vm.findClass C = some cellB.cls)
    {g : JFrame} (hg : g.method = m) (hsize : g.locals.size = c.maxLocals) {argsL rest : List Value} (hlen : ∀ sig, parseMethodDescriptor y.desc = some sig → argsL.length = sig.parameters.length)
    (hstack : g.stack = argsL.reverse ++ .ref b :: rest) (hW : 2 * g.monitorRoom + (rest.map fun v => v.category).sum ≤ W9) (hdg : decode c.code g.pc = .ok (.invokevirtual index, 3))
    (hpre : ∀ vm₁, s.WarmedH vm₁ → Pre ⟨T.setVm vm₁, locs, cells, slots⟩ (Value.ref b :: argsL).toArray) :
    ∃ (v : Option Value) (vm₁ : Vm) (B : Pt), s.WarmedH vm₁ ∧ Stand p l e R s m args below meth c B.U B.locs B.cells B.slots ∧ Post ⟨T.setVm vm₁, locs, cells, slots⟩ (Value.ref b :: argsL).toArray v B ∧
      ∀ target, Steps p.tables e below (B.U.setTop { g with pc := g.pc + 3, stack := v.toList ++ rest }) target → Steps p.tables e below (T.setTop g) target := by
  obtain ⟨mk, methM, hnamed, hmethM, hstM, habM⟩ := Cond.instanceMethod_spec hinst
  obtain ⟨m8, methM', cM, hn8, hmethM', -, -, -, -, -, -, hsigM⟩ := Cond.codeWith_spec hcode
  cases Option.some.inj (hn8.symm.trans hnamed)
  cases hmethM.symm.trans hmethM'
  obtain ⟨c2, r2, m2, q1, q2, q3, q4, kP, hkP, hkPi⟩ := Cond.selects_spec hsel
  cases hcls.symm.trans q1
  cases (State.methodFound?_of_named hnamed hy).symm.trans q2
  cases hnamed.symm.trans q3
  have hselP : selectMethod e.platform s.vm cellB.cls mk = .method mk := by rw [Launch.admits_selectMethod X.admits]; exact q4
  obtain ⟨vm₁, X₁, hstep₁⟩ := X.invokevirtual hexec hown hlink hnamed hmethM hstM hkP hkPi hy (a := b) (cell := cellB) hcell
    (fun z h => by rw [h] at hobj; cases hobj) hselP hmethM habM hkP hkPi (g := g) hg (argsL := argsL) (rest := rest) (hlen _ hsigM) hstack hdg
  obtain ⟨v, B, X', hpost, hsteps⟩ := hK m meth c ⟨T.setVm vm₁, locs, cells, slots⟩ { g with stack := rest } (.invokevirtual index) mk (Value.ref b :: argsL).toArray X₁ hg hsize hdg hW (X₁.named hnamed) (hpre vm₁ X₁.warmed)
  exact ⟨v, vm₁, B, X₁.warmed, X', hpost, fun target h => hstep₁ _ fun acts => by rw [doInvoke_state]; exact hsteps.trans h⟩
abbrev vx_CVW (R : Room) (s : State) (args : Array Value) (own C : String) (index : Nat) (y : MethodName) (bytes : ByteArray) (maxL : Nat) (ret : Option FieldType) (hh : List (Nat × Nat × Nat × Nat)) (ws : List Cond) (rm : Room) (mc ms n : Nat) : Prop :=
  (rm.cells = mc ∧ rm.slots = ms ∧ rm.frames + 1 ≤ R.frames ∧ 8 + (maxL + 11) + rm.locals ≤ R.locals ∧ (∀ w ∈ ws, ∀ (a' : Array Value) (U : State), s.WarmedH U.vm → w.before a' U = true) ∧ Cond.codeWith y bytes maxL ret hh ∈ ws) ∧
  (Cond.codeWith y bytes maxL ret hh).before args s = true ∧ (Cond.initialized y.cls).before args s = true ∧ (y.cls ≠ "java/lang/invoke/MethodHandle" ∧ y.cls ≠ "java/lang/invoke/VarHandle") ∧
  (∀ sig, parseMethodDescriptor y.desc = some sig → n = sig.parameters.length) ∧ (Cond.methodLink own index y).before args s = true ∧ (Cond.instanceMethod y).before args s = true ∧ (Cond.selects C y y).before args s = true
theorem vx_cwVW {own C : String} {index maxL mc ms : Nat} {y : MethodName} {bytes : ByteArray} {ret : Option FieldType} {hh : List (Nat × Nat × Nat × Nat)} {Ts ws ws' : List Cond} {rm : Room} (n : Nat) (ht : ∀ w ∈ Ts, w.before args s = true) (hT : GoodIn Ts (wsV own index C y ws)) (hw : ws = Cond.codeWith y bytes maxL ret hh :: ws') (hrc : rm.cells = mc) (hrs : rm.slots = ms)
    (hd : y.cls = C ∧ y.cls ≠ "java/lang/invoke/MethodHandle" ∧ y.cls ≠ "java/lang/invoke/VarHandle" ∧ (parseMethodDescriptor y.desc).map (fun d => d.parameters.length) = some n) (hR : rm.frames + 1 ≤ R.frames ∧ 8 + (maxL + 11) + rm.locals ≤ R.locals) :
    vx_CVW R s args own C index y bytes maxL ret hh ws rm mc ms n := by
  obtain ⟨hC, hd⟩ := hd
  subst hC
  have ok : ∀ w ∈ wsV own index y.cls y ws, w.before args s = true := fun w h => ht w (hT w h).1
  have hG : GoodIn Ts ws := fun w h => hT w (by unfold wsV; exact List.mem_append_right _ h)
  have hc : Cond.codeWith y bytes maxL ret hh ∈ ws := by rw [hw]; exact List.mem_cons_self
  refine ⟨⟨hrc, hrs, hR.1, hR.2, pay_in ht hG, hc⟩, ht _ (hG _ hc).1, ok _ (by simp [wsV]), ⟨hd.1, hd.2.1⟩, fun sig h => ?_, ok _ (by simp [wsV]), ok _ (by simp [wsV]), ok _ (by simp [wsV])⟩
  have h2 := hd.2.2
  rw [h] at h2
  exact (Option.some.inj h2).symm
theorem vx_runVW {y : MethodName} {bytes cc : ByteArray} {maxL nL mc ms n index : Nat} {ret : Option FieldType} {hh : List (Nat × Nat × Nat × Nat)} {ws : List Cond} {rm : Room} {Pc : Array Value → State → Prop} {Qc : Array Value → State → Outcome → State → Prop} {free : Addr → Prop} {Ts : List Cond} {own C : String} {b : Addr} {As rest : List Value} {g : JFrame}
    (S : CallFix p m c cc nL s args Ts own) (hM : Met l y ws rm Pc Qc mc ms free) (cw : vx_CVW R s args own C index y bytes maxL ret hh ws rm mc ms n) (hp : PreV s H C b Pc As)
    (hg : g.method = m) (hn : As.length = n) (hsize : g.locals.size = nL) (hstack : g.stack = As.reverse ++ .ref b :: rest) (hW : 2 * g.monitorRoom + (rest.map fun v => v.category).sum ≤ 8) (hdg : decode cc g.pc = .ok (.invokevirtual index, 3)) (hf : cells + mc ≤ R.cells ∧ slots + ms ≤ R.slots) :
    va_Run p l e R s m args below meth c H locs cells slots mc ms g rest (Qc (Value.ref b :: As).toArray) free := by
  obtain ⟨⟨hrc, hrs, hfr, hlo, hws, hcw⟩, hcode, hini, hy, hlen, hl, hin, hse⟩ := cw
  have hK : Back l R p e below s args y 3 8 (PreOf R mc ms Pc) (PostOf Qc mc ms free) := va_backW (hh := hh) (bytes := bytes) (maxL := maxL) (ret := ret) hM hp.1 hrc hrs hfr hlo hws hcw (fun a' U hW => word_at hW (Or.inl (by first | rfl | simp [Cond.onTables, Cond.keeps, Cond.steady])) hini)
  obtain ⟨hx, hb, hml, ho, -⟩ := S
  obtain ⟨-, ⟨cellB, hcB, hoB, hclB⟩, hPc⟩ := hp
  intro T hT X
  obtain ⟨v, vm₁, ⟨U', l2, c2, s2⟩, hW₁, X', ⟨g', mk, t, L, e1, e2, hq, h1, hL, h2, h3⟩, st⟩ := vx_callVW X hx (C := C) (hh := hh) (bytes := bytes) (maxL := maxL) (ret := ret) ho hl hin hse hcode hy hK (by rw [hT]; exact hcB) hoB hclB hg (hsize.trans hml.symm) (argsL := As) (rest := rest) (fun sig h => hn.trans (hlen sig h)) hstack hW (by rw [hb]; exact hdg)
    (fun vm₁ hW₁ => ⟨hf.1, hf.2, hPc (T.setVm vm₁) hT hW₁⟩)
  dsimp only [Pt.U, Pt.locs, Pt.cells, Pt.slots] at X' e1 e2 h1 h2 h3 st
  subst h1; subst h2; subst h3
  exact ⟨v, (T.setVm vm₁).calling g' mk (Value.ref b :: As).toArray, t, U', L, hT, X', hL, e1, e2, hq, st⟩
section
variable {y : MethodName} {bytes cc : ByteArray} {maxL nL mc ms n index : Nat} {ret : Option FieldType} {ws : List Cond} {rm : Room} {Pc : Array Value → State → Prop} {Qc : Array Value → State → Outcome → State → Prop} {XC : String → State → State → Prop} {free : Addr → Prop} {Ts : List Cond} {own C : String} {b : Addr} {As rest : List Value} {g : JFrame}
theorem vx_runVX {hh : List (Nat × Nat × Nat × Nat)} (S : CallFix p m c cc nL s args Ts own) (hM : vx_Met l y ws rm Pc Qc XC mc ms free) (cw : vx_CVW R s args own C index y bytes maxL ret hh ws rm mc ms n) (hp : PreV s H C b Pc As)
    (hg : g.method = m) (hn : As.length = n) (hsize : g.locals.size = nL) (hstack : g.stack = As.reverse ++ .ref b :: rest) (hW : 2 * g.monitorRoom + (rest.map fun v => v.category).sum ≤ 8) (hdg : decode cc g.pc = .ok (.invokevirtual index, 3)) (hf : cells + mc ≤ R.cells ∧ slots + ms ≤ R.slots) :
    vx_Run p l e R s m args below meth c H locs cells slots mc ms g rest (Qc (Value.ref b :: As).toArray) XC free := by
  obtain ⟨⟨hrc, hrs, hfr, hlo, hws, hcw⟩, hcode, hini, hy, hlen, hl, hin, hse⟩ := cw
  have hK : vx_Back l R p e below s args y 3 8 (PreOf R mc ms Pc) (PostOf Qc mc ms free) (vx_Post XC mc ms free) := vx_backW (hh := hh) (bytes := bytes) (maxL := maxL) (ret := ret) hM hp.1 hrc hrs hfr hlo hws hcw (fun a' U hW => word_at hW (Or.inl (by first | rfl | simp [Cond.onTables, Cond.keeps, Cond.steady])) hini)
  obtain ⟨hx, hb, hml, ho, -⟩ := S
  obtain ⟨-, ⟨cellB, hcB, hoB, hclB⟩, hPc⟩ := hp
  intro T hT X
  rcases vx_callVX X hx (C := C) (hh := hh) (bytes := bytes) (maxL := maxL) (ret := ret) ho hl hin hse hcode hy hK (by rw [hT]; exact hcB) hoB hclB hg (hsize.trans hml.symm) (argsL := As) (rest := rest) (fun sig h => hn.trans (hlen sig h)) hstack hW (by rw [hb]; exact hdg)
    (fun vm₁ hW₁ => ⟨hf.1, hf.2, hPc (T.setVm vm₁) hT hW₁⟩) with ⟨v, vm₁, ⟨U', l2, c2, s2⟩, hW₁, X', ⟨g', mk, t, L, e1, e2, hq, h1, hL, h2, h3⟩, st⟩ | ⟨q, vm₁, ⟨U', l2, c2, s2⟩, hW₁, X', ⟨g', mk, t, L, E, ce, e1, e2, hq, hce, hcv, hcl, h1, hL, h2, h3⟩, st⟩
  · dsimp only [Pt.U, Pt.locs, Pt.cells, Pt.slots] at X' e1 e2 h1 h2 h3 st
    subst h1; subst h2; subst h3
    exact Or.inl ⟨v, (T.setVm vm₁).calling g' mk (Value.ref b :: As).toArray, t, U', L, hT, X', hL, e1, e2, hq, st⟩
  · dsimp only [Pt.U, Pt.locs, Pt.cells, Pt.slots] at X' e1 e2 h1 h2 h3 st hcl
    subst h1; subst h2; subst h3
    exact Or.inr ⟨q, (T.setVm vm₁).calling g' mk (Value.ref b :: As).toArray, t, U', L, E, ce, hT, X', hL, e1, e2, hq, hce, hcv, vx_cls hW₁ hcl, st⟩
theorem vx_runSX {hh : List (Nat × Nat × Nat × Nat)} (S : CallFix p m c cc nL s args Ts own) (hM : vx_Met l y ws rm Pc Qc XC mc ms free) (cw : vx_CSW R s args own index y bytes maxL ret hh ws rm mc ms n) (hp : PreS s H Pc As)
    (hg : g.method = m) (hn : As.length = n) (hsize : g.locals.size = nL) (hstack : g.stack = As.reverse ++ rest) (hW : 2 * g.monitorRoom + (rest.map fun v => v.category).sum ≤ 8) (hdg : decode cc g.pc = .ok (.invokestatic index, 3)) (hf : cells + mc ≤ R.cells ∧ slots + ms ≤ R.slots) :
    vx_Run p l e R s m args below meth c H locs cells slots mc ms g rest (Qc As.toArray) XC free := by
  obtain ⟨⟨hrc, hrs, hfr, hlo, hws, hcw⟩, hcode, hini, hy, hlen, hl, hstt⟩ := cw
  have hK : vx_Back l R p e below s args y 3 8 (PreOf R mc ms Pc) (PostOf Qc mc ms free) (vx_Post XC mc ms free) := vx_backW (hh := hh) (bytes := bytes) (maxL := maxL) (ret := ret) hM hp.1 hrc hrs hfr hlo hws hcw (fun a' U hW => word_at hW (Or.inl (by first | rfl | simp [Cond.onTables, Cond.keeps, Cond.steady])) hini)
  obtain ⟨hx, hb, hml, ho, -⟩ := S
  intro T hT X
  rcases vx_callSX X hx (hh := hh) (bytes := bytes) (maxL := maxL) (ret := ret) ho hl hstt hini hcode hy hK hg (hsize.trans hml.symm) (argsL := As) (rest := rest) (fun sig h => hn.trans (hlen sig h)) hstack hW (by rw [hb]; exact hdg)
    (fun vm₁ hW₁ => ⟨hf.1, hf.2, hp.2 (T.setVm vm₁) hT hW₁⟩) with ⟨v, vm₁, ⟨U', l2, c2, s2⟩, hW₁, X', ⟨g', mk, t, L, e1, e2, hq, h1, hL, h2, h3⟩, st⟩ | ⟨q, vm₁, ⟨U', l2, c2, s2⟩, hW₁, X', ⟨g', mk, t, L, E, ce, e1, e2, hq, hce, hcv, hcl, h1, hL, h2, h3⟩, st⟩
  · dsimp only [Pt.U, Pt.locs, Pt.cells, Pt.slots] at X' e1 e2 h1 h2 h3 st
    subst h1; subst h2; subst h3
    exact Or.inl ⟨v, (T.setVm vm₁).calling g' mk As.toArray, t, U', L, hT, X', hL, e1, e2, hq, st⟩
  · dsimp only [Pt.U, Pt.locs, Pt.cells, Pt.slots] at X' e1 e2 h1 h2 h3 st hcl
    subst h1; subst h2; subst h3
    exact Or.inr ⟨q, (T.setVm vm₁).calling g' mk As.toArray, t, U', L, E, ce, hT, X', hL, e1, e2, hq, hce, hcv, vx_cls hW₁ hcl, st⟩
end
end VXH
theorem vx_ofWH {l : Launch} {y : MethodName} {ws ws' : List Cond} {rm : Room} {Pc : Array Value → State → Prop} {Qc : Array Value → State → Outcome → State → Prop} {XC : String → State → State → Prop} {mc ms : Nat} {free : Addr → Prop} {cc : ByteArray} {maxL : Nat} {ret : Option FieldType} {hh : List (Nat × Nat × Nat × Nat)}
    (hy : plainName y.cls = true) (hw : ws = Cond.codeWith y cc maxL ret hh :: ws')
    (body : ∀ p e s m args below meth c s₁, BodyLoose p l y (headSpec ws rm) cc maxL ret e s m args below meth c s₁ → c.maxLocals = maxL → Pc args s →
      W p l e (headSpec ws rm).room s m args below meth c s.heap [] 0 0 (vx_MQ below Qc XC args s mc ms free) (entryFrame m args maxL)) : vx_Met l y ws rm Pc Qc XC mc ms free := by
  refine MetFree.of_bodyS (code := cc) (maxLocals := maxL) (ret := ret) hy ?_ ?_
  · intro args s m h hn
    obtain ⟨m9, meth, c, hn9, h1, h2, h3, h4, -, h5, h6, -⟩ := Cond.codeWith_spec (atoms_spec (ws := ws) h _ (by rw [hw]; exact List.mem_cons_self))
    cases hn.symm.trans hn9
    exact ⟨meth, c, h1, h2, h3, h4, h5, h6⟩
  · intro p e s m args below meth c s₁ B hml hP _
    have hh0 : s₁.heap = s.heap := by rw [B.state]; rfl
    obtain ⟨t, a1, o, b1, b2, b3⟩ := body p e s m args below meth c s₁ B hml hP s₁ hh0 (Stand.of_body B)
    exact ⟨t, o, a1, b1, b2, b3⟩
/-! ===== END ===== -/
end
section
/-! ===== BEGIN printed: names, fields, word lists, decode rows ===== -/
def RX0 : String := "Degreewall$Kinship"
def TX0 : u_T := fun k => match k with
  | 0 => ("Degreewall$Kinship", "kin", "LDegreewall$Links;", true)
  | 1 => ("Degreewall$Kinship", "barred", "[I", true)
  | 2 => ("Degreewall$Kinship", "count", "I", false)
  | _ => ("Degreewall$Kinship", "bar", "I", false)
def tyX0 : Nat → FieldType := fun k => match k with
  | 0 => .object "Degreewall$Links"
  | 1 => .array .int
  | 2 => .int
  | _ => .int
abbrev wsX00 : List Cond := u_ws RX0 TX0 4
theorem nmX0 : ∀ a, a < 4 → ∀ b, b < 4 → a ≠ b → (TX0 a).2.1 ≠ (TX0 b).2.1 := by decide +kernel
theorem tyX0_ok : ∀ k, k < 4 → parseFieldDescriptor (TX0 k).2.2.1 = some (tyX0 k) := by decide +kernel
abbrev cX0_init : ByteArray := prog_2_method_1_code
def yX0_init : MethodName := ⟨RX0, "<init>", "()V"⟩
abbrev cX0_count : ByteArray := prog_2_method_2_code
def yX0_count : MethodName := ⟨RX0, "count", "()I"⟩
abbrev cX0_knows : ByteArray := prog_2_method_3_code
def yX0_knows : MethodName := ⟨RX0, "knows", "(I)Z"⟩
abbrev cX0_barNow : ByteArray := prog_2_method_4_code
def yX0_barNow : MethodName := ⟨RX0, "barNow", "()I"⟩
abbrev cX0_addSource : ByteArray := prog_2_method_5_code
def yX0_addSource : MethodName := ⟨RX0, "addSource", "()I"⟩
abbrev cX0_tellKin : ByteArray := prog_2_method_6_code
def yX0_tellKin : MethodName := ⟨RX0, "tellKin", "(IIZ)V"⟩
abbrev cX0_tellBar : ByteArray := prog_2_method_7_code
def yX0_tellBar : MethodName := ⟨RX0, "tellBar", "(I)V"⟩
abbrev cX0_kinOf : ByteArray := prog_2_method_8_code
def yX0_kinOf : MethodName := ⟨RX0, "kinOf", "(I)I"⟩
abbrev cX0_within : ByteArray := prog_2_method_10_code
def yX0_within : MethodName := ⟨RX0, "within", "(I)I"⟩
abbrev cX0_firstPairWithin : ByteArray := prog_2_method_11_code
def yX0_firstPairWithin : MethodName := ⟨RX0, "firstPairWithin", "(I)I"⟩
abbrev cX0_findBarred : ByteArray := prog_2_method_12_code
def yX0_findBarred : MethodName := ⟨RX0, "findBarred", "()V"⟩
def RX1 : String := "Degreewall$Links"
def TX1 : u_T := fun k => match k with
  | _ => ("Degreewall$Links", "near", "[I", true)
def tyX1 : Nat → FieldType := fun k => match k with
  | _ => .array .int
abbrev wsX10 : List Cond := u_ws RX1 TX1 1
theorem nmX1 : ∀ a, a < 1 → ∀ b, b < 1 → a ≠ b → (TX1 a).2.1 ≠ (TX1 b).2.1 := by decide +kernel
theorem tyX1_ok : ∀ k, k < 1 → parseFieldDescriptor (TX1 k).2.2.1 = some (tyX1 k) := by decide +kernel
abbrev cX1_init : ByteArray := prog_3_method_1_code
def yX1_init : MethodName := ⟨RX1, "<init>", "()V"⟩
abbrev cX1_cutAll : ByteArray := prog_3_method_2_code
def yX1_cutAll : MethodName := ⟨RX1, "cutAll", "()V"⟩
abbrev cX1_link : ByteArray := prog_3_method_3_code
def yX1_link : MethodName := ⟨RX1, "link", "(II)V"⟩
abbrev cX1_cut : ByteArray := prog_3_method_4_code
def yX1_cut : MethodName := ⟨RX1, "cut", "(II)V"⟩
abbrev cX1_nextTo : ByteArray := prog_3_method_5_code
def yX1_nextTo : MethodName := ⟨RX1, "nextTo", "(I)I"⟩
abbrev cX1_reach : ByteArray := prog_3_method_6_code
def yX1_reach : MethodName := ⟨RX1, "reach", "(II)I"⟩
abbrev cX1_widened : ByteArray := prog_3_method_8_code
def yX1_widened : MethodName := ⟨RX1, "widened", "(I)I"⟩
def RX2 : String := "Degreewall$Permits"
def TX2 : u_T := fun k => match k with
  | 0 => ("Degreewall$Permits", "smaller", "[I", true)
  | 1 => ("Degreewall$Permits", "greater", "[I", true)
  | 2 => ("Degreewall$Permits", "lastDay", "[I", true)
  | 3 => ("Degreewall$Permits", "chains", "LDegreewall$Links;", true)
  | 4 => ("Degreewall$Permits", "count", "I", false)
  | 5 => ("Degreewall$Permits", "revoked", "I", false)
  | 6 => ("Degreewall$Permits", "today", "I", false)
  | _ => ("Degreewall$Permits", "repair", "I", false)
def tyX2 : Nat → FieldType := fun k => match k with
  | 0 => .array .int
  | 1 => .array .int
  | 2 => .array .int
  | 3 => .object "Degreewall$Links"
  | 4 => .int
  | 5 => .int
  | 6 => .int
  | _ => .int
abbrev wsX20 : List Cond := u_ws RX2 TX2 8
theorem nmX2 : ∀ a, a < 8 → ∀ b, b < 8 → a ≠ b → (TX2 a).2.1 ≠ (TX2 b).2.1 := by decide +kernel
theorem tyX2_ok : ∀ k, k < 8 → parseFieldDescriptor (TX2 k).2.2.1 = some (tyX2 k) := by decide +kernel
abbrev cX2_init : ByteArray := prog_4_method_1_code
def yX2_init : MethodName := ⟨RX2, "<init>", "()V"⟩
abbrev cX2_count : ByteArray := prog_4_method_2_code
def yX2_count : MethodName := ⟨RX2, "count", "()I"⟩
abbrev cX2_today : ByteArray := prog_4_method_3_code
def yX2_today : MethodName := ⟨RX2, "today", "()I"⟩
abbrev cX2_repair : ByteArray := prog_4_method_4_code
def yX2_repair : MethodName := ⟨RX2, "repair", "()I"⟩
abbrev cX2_isInForce : ByteArray := prog_4_method_9_code
def yX2_isInForce : MethodName := ⟨RX2, "isInForce", "(I)Z"⟩
abbrev cX2_countInForce : ByteArray := prog_4_method_10_code
def yX2_countInForce : MethodName := ⟨RX2, "countInForce", "()I"⟩
abbrev cX2_add : ByteArray := prog_4_method_11_code
def yX2_add : MethodName := ⟨RX2, "add", "(III)I"⟩
abbrev cX2_chained : ByteArray := prog_4_method_14_code
def yX2_chained : MethodName := ⟨RX2, "chained", "(I)I"⟩
abbrev cX2_countLeaks : ByteArray := prog_4_method_16_code
def yX2_countLeaks : MethodName := ⟨RX2, "countLeaks", "(LDegreewall$Kinship;)I"⟩
abbrev cX2_findRepair : ByteArray := prog_4_method_17_code
def yX2_findRepair : MethodName := ⟨RX2, "findRepair", "(LDegreewall$Kinship;)V"⟩
abbrev cX2_areSound : ByteArray := prog_4_method_18_code
def yX2_areSound : MethodName := ⟨RX2, "areSound", "(LDegreewall$Kinship;)Z"⟩
abbrev cX2_inForce : ByteArray := prog_4_method_19_code
def yX2_inForce : MethodName := ⟨RX2, "inForce", "()I"⟩
abbrev cX2_layOut : ByteArray := prog_4_method_20_code
def yX2_layOut : MethodName := ⟨RX2, "layOut", "(I)V"⟩
abbrev cX2_leaksBy : ByteArray := prog_4_method_21_code
def yX2_leaksBy : MethodName := ⟨RX2, "leaksBy", "(ILDegreewall$Kinship;)I"⟩
def RX3 : String := "Degreewall$Span"
def TX3 : u_T := fun k => match k with
  | 0 => ("Degreewall$Span", "rows", "[[I", true)
  | 1 => ("Degreewall$Span", "rest", "[I", true)
  | _ => ("Degreewall$Span", "used", "I", false)
def tyX3 : Nat → FieldType := fun k => match k with
  | 0 => .array (.array .int)
  | 1 => .array .int
  | _ => .int
abbrev wsX30 : List Cond := u_ws RX3 TX3 3
theorem nmX3 : ∀ a, a < 3 → ∀ b, b < 3 → a ≠ b → (TX3 a).2.1 ≠ (TX3 b).2.1 := by decide +kernel
theorem tyX3_ok : ∀ k, k < 3 → parseFieldDescriptor (TX3 k).2.2.1 = some (tyX3 k) := by decide +kernel
abbrev cX3_init : ByteArray := prog_5_method_1_code
def yX3_init : MethodName := ⟨RX3, "<init>", "()V"⟩
abbrev cX3_forgetAll : ByteArray := prog_5_method_2_code
def yX3_forgetAll : MethodName := ⟨RX3, "forgetAll", "()V"⟩
abbrev cX3_add : ByteArray := prog_5_method_3_code
def yX3_add : MethodName := ⟨RX3, "add", "(I)V"⟩
abbrev cX3_holds : ByteArray := prog_5_method_4_code
def yX3_holds : MethodName := ⟨RX3, "holds", "(I)Z"⟩
abbrev cX3_alone : ByteArray := prog_5_method_6_code
def yX3_alone : MethodName := ⟨RX3, "alone", "()I"⟩
abbrev cX3_isAlone : ByteArray := prog_5_method_7_code
def yX3_isAlone : MethodName := ⟨RX3, "isAlone", "([I)Z"⟩
abbrev cX3_firstOfRest : ByteArray := prog_5_method_8_code
def yX3_firstOfRest : MethodName := ⟨RX3, "firstOfRest", "(I)I"⟩
abbrev cX3_clearAt : ByteArray := prog_5_method_9_code
def yX3_clearAt : MethodName := ⟨RX3, "clearAt", "([II)V"⟩
def RX4 : String := "Degreewall$Sums"
def TX4 : u_T := fun k => match k with
  | 0 => ("Degreewall$Sums", "values", "[I", true)
  | 1 => ("Degreewall$Sums", "talks", "LDegreewall$Links;", true)
  | 2 => ("Degreewall$Sums", "hearers", "[I", true)
  | 3 => ("Degreewall$Sums", "told", "[I", true)
  | 4 => ("Degreewall$Sums", "refused", "[I", true)
  | 5 => ("Degreewall$Sums", "span", "LDegreewall$Span;", true)
  | 6 => ("Degreewall$Sums", "people", "I", false)
  | 7 => ("Degreewall$Sums", "askers", "I", false)
  | _ => ("Degreewall$Sums", "least", "I", false)
def tyX4 : Nat → FieldType := fun k => match k with
  | 0 => .array .int
  | 1 => .object "Degreewall$Links"
  | 2 => .array .int
  | 3 => .array .int
  | 4 => .array .int
  | 5 => .object "Degreewall$Span"
  | 6 => .int
  | 7 => .int
  | _ => .int
abbrev wsX40 : List Cond := u_ws RX4 TX4 9
theorem nmX4 : ∀ a, a < 9 → ∀ b, b < 9 → a ≠ b → (TX4 a).2.1 ≠ (TX4 b).2.1 := by decide +kernel
theorem tyX4_ok : ∀ k, k < 9 → parseFieldDescriptor (TX4 k).2.2.1 = some (tyX4 k) := by decide +kernel
abbrev cX4_init : ByteArray := prog_6_method_1_code
def yX4_init : MethodName := ⟨RX4, "<init>", "()V"⟩
abbrev cX4_people : ByteArray := prog_6_method_2_code
def yX4_people : MethodName := ⟨RX4, "people", "()I"⟩
abbrev cX4_everybody : ByteArray := prog_6_method_3_code
def yX4_everybody : MethodName := ⟨RX4, "everybody", "()I"⟩
abbrev cX4_askers : ByteArray := prog_6_method_4_code
def yX4_askers : MethodName := ⟨RX4, "askers", "()I"⟩
abbrev cX4_leastNow : ByteArray := prog_6_method_5_code
def yX4_leastNow : MethodName := ⟨RX4, "leastNow", "()I"⟩
abbrev cX4_knowsAsker : ByteArray := prog_6_method_6_code
def yX4_knowsAsker : MethodName := ⟨RX4, "knowsAsker", "(I)Z"⟩
abbrev cX4_knowsPeople : ByteArray := prog_6_method_7_code
def yX4_knowsPeople : MethodName := ⟨RX4, "knowsPeople", "(I)Z"⟩
abbrev cX4_addPerson : ByteArray := prog_6_method_8_code
def yX4_addPerson : MethodName := ⟨RX4, "addPerson", "(I)I"⟩
abbrev cX4_addAsker : ByteArray := prog_6_method_9_code
def yX4_addAsker : MethodName := ⟨RX4, "addAsker", "()I"⟩
abbrev cX4_tell : ByteArray := prog_6_method_11_code
def yX4_tell : MethodName := ⟨RX4, "tell", "(II)I"⟩
abbrev cX4_letTalk : ByteArray := prog_6_method_12_code
def yX4_letTalk : MethodName := ⟨RX4, "letTalk", "(II)Z"⟩
abbrev cX4_circle : ByteArray := prog_6_method_13_code
def yX4_circle : MethodName := ⟨RX4, "circle", "(I)I"⟩
abbrev cX4_toldEver : ByteArray := prog_6_method_17_code
def yX4_toldEver : MethodName := ⟨RX4, "toldEver", "()I"⟩
abbrev cX4_refusedEver : ByteArray := prog_6_method_18_code
def yX4_refusedEver : MethodName := ⟨RX4, "refusedEver", "()I"⟩
abbrev cX4_givenAwayWith : ByteArray := prog_6_method_20_code
def yX4_givenAwayWith : MethodName := ⟨RX4, "givenAwayWith", "(II)I"⟩
abbrev cX4_givenAwayByTalk : ByteArray := prog_6_method_21_code
def yX4_givenAwayByTalk : MethodName := ⟨RX4, "givenAwayByTalk", "(II)I"⟩
abbrev cX4_areSound : ByteArray := prog_6_method_22_code
def yX4_areSound : MethodName := ⟨RX4, "areSound", "()Z"⟩
abbrev cX4_spanHoldsAllTold : ByteArray := prog_6_method_23_code
def yX4_spanHoldsAllTold : MethodName := ⟨RX4, "spanHoldsAllTold", "(I)Z"⟩
abbrev cX4_fillSpan : ByteArray := prog_6_method_24_code
def yX4_fillSpan : MethodName := ⟨RX4, "fillSpan", "(I)V"⟩
abbrev cX4_sumOf : ByteArray := prog_6_method_25_code
def yX4_sumOf : MethodName := ⟨RX4, "sumOf", "(I)I"⟩
abbrev cX4_total : ByteArray := prog_6_method_26_code
def yX4_total : MethodName := ⟨RX4, "total", "([I)I"⟩
def RX5 : String := "Degreewall$Tables"
def TX5 : u_T := fun k => match k with
  | 0 => ("Degreewall$Tables", "lines", "[I", true)
  | 1 => ("Degreewall$Tables", "count", "I", false)
  | _ => ("Degreewall$Tables", "struck", "I", false)
def tyX5 : Nat → FieldType := fun k => match k with
  | 0 => .array .int
  | 1 => .int
  | _ => .int
abbrev wsX50 : List Cond := u_ws RX5 TX5 3
theorem nmX5 : ∀ a, a < 3 → ∀ b, b < 3 → a ≠ b → (TX5 a).2.1 ≠ (TX5 b).2.1 := by decide +kernel
theorem tyX5_ok : ∀ k, k < 3 → parseFieldDescriptor (TX5 k).2.2.1 = some (tyX5 k) := by decide +kernel
abbrev cX5_init : ByteArray := prog_7_method_1_code
def yX5_init : MethodName := ⟨RX5, "<init>", "()V"⟩
abbrev cX5_count : ByteArray := prog_7_method_2_code
def yX5_count : MethodName := ⟨RX5, "count", "()I"⟩
abbrev cX5_knows : ByteArray := prog_7_method_3_code
def yX5_knows : MethodName := ⟨RX5, "knows", "(I)Z"⟩
abbrev cX5_line : ByteArray := prog_7_method_4_code
def yX5_line : MethodName := ⟨RX5, "line", "(I)I"⟩
abbrev cX5_isStruck : ByteArray := prog_7_method_5_code
def yX5_isStruck : MethodName := ⟨RX5, "isStruck", "(I)Z"⟩
abbrev cX5_countStruck : ByteArray := prog_7_method_6_code
def yX5_countStruck : MethodName := ⟨RX5, "countStruck", "()I"⟩
abbrev cX5_add : ByteArray := prog_7_method_7_code
def yX5_add : MethodName := ⟨RX5, "add", "(I)I"⟩
abbrev cX5_strike : ByteArray := prog_7_method_8_code
def yX5_strike : MethodName := ⟨RX5, "strike", "(LDegreewall$Kinship;)I"⟩
abbrev cX5_countWith : ByteArray := prog_7_method_9_code
def yX5_countWith : MethodName := ⟨RX5, "countWith", "(I)I"⟩
abbrev cX5_areSound : ByteArray := prog_7_method_10_code
def yX5_areSound : MethodName := ⟨RX5, "areSound", "(LDegreewall$Kinship;)Z"⟩
def RX6 : String := "Degreewall"
def TX6 : u_T := fun k => match k with
  | 0 => ("Degreewall", "kinship", "LDegreewall$Kinship;", true)
  | 1 => ("Degreewall", "tables", "LDegreewall$Tables;", true)
  | 2 => ("Degreewall", "permits", "LDegreewall$Permits;", true)
  | 3 => ("Degreewall", "sums", "LDegreewall$Sums;", true)
  | _ => ("Degreewall", "knocks", "I", false)
def tyX6 : Nat → FieldType := fun k => match k with
  | 0 => .object "Degreewall$Kinship"
  | 1 => .object "Degreewall$Tables"
  | 2 => .object "Degreewall$Permits"
  | 3 => .object "Degreewall$Sums"
  | _ => .int
abbrev wsX60 : List Cond := u_ws RX6 TX6 5
theorem nmX6 : ∀ a, a < 5 → ∀ b, b < 5 → a ≠ b → (TX6 a).2.1 ≠ (TX6 b).2.1 := by decide +kernel
theorem tyX6_ok : ∀ k, k < 5 → parseFieldDescriptor (TX6 k).2.2.1 = some (tyX6 k) := by decide +kernel
abbrev cX6_init : ByteArray := prog_1_method_1_code
def yX6_init : MethodName := ⟨RX6, "<init>", "()V"⟩
abbrev cX6_source : ByteArray := prog_1_method_2_code
def yX6_source : MethodName := ⟨RX6, "source", "()I"⟩
abbrev cX6_kin : ByteArray := prog_1_method_3_code
def yX6_kin : MethodName := ⟨RX6, "kin", "(IIZ)I"⟩
abbrev cX6_bar : ByteArray := prog_1_method_4_code
def yX6_bar : MethodName := ⟨RX6, "bar", "(I)I"⟩
abbrev cX6_join : ByteArray := prog_1_method_5_code
def yX6_join : MethodName := ⟨RX6, "join", "(II)I"⟩
abbrev cX6_permit : ByteArray := prog_1_method_6_code
def yX6_permit : MethodName := ⟨RX6, "permit", "(III)I"⟩
abbrev cX6_person : ByteArray := prog_1_method_9_code
def yX6_person : MethodName := ⟨RX6, "person", "(I)I"⟩
abbrev cX6_asker : ByteArray := prog_1_method_10_code
def yX6_asker : MethodName := ⟨RX6, "asker", "()I"⟩
abbrev cX6_ask : ByteArray := prog_1_method_12_code
def yX6_ask : MethodName := ⟨RX6, "ask", "(II)I"⟩
abbrev cX6_talk : ByteArray := prog_1_method_13_code
def yX6_talk : MethodName := ⟨RX6, "talk", "(II)Z"⟩
abbrev cX6_ofSource : ByteArray := prog_1_method_15_code
def yX6_ofSource : MethodName := ⟨RX6, "ofSource", "(II)I"⟩
abbrev cX6_ofTable : ByteArray := prog_1_method_16_code
def yX6_ofTable : MethodName := ⟨RX6, "ofTable", "(II)I"⟩
abbrev cX6_house : ByteArray := prog_1_method_20_code
def yX6_house : MethodName := ⟨RX6, "house", "(I)I"⟩
abbrev cX6_wouldJoin : ByteArray := prog_1_method_22_code
def yX6_wouldJoin : MethodName := ⟨RX6, "wouldJoin", "(II)I"⟩
abbrev cX6_isSound : ByteArray := prog_1_method_26_code
def yX6_isSound : MethodName := ⟨RX6, "isSound", "()Z"⟩
abbrev cX6_contains : ByteArray := prog_1_method_30_code
def yX6_contains : MethodName := ⟨RX6, "contains", "(II)Z"⟩
abbrev cX6_applyBar : ByteArray := prog_1_method_31_code
def yX6_applyBar : MethodName := ⟨RX6, "applyBar", "()I"⟩
abbrev cX6_lineOf : ByteArray := prog_1_method_32_code
def yX6_lineOf : MethodName := ⟨RX6, "lineOf", "(I)I"⟩
abbrev cX6_needSource : ByteArray := prog_1_method_33_code
def yX6_needSource : MethodName := ⟨RX6, "needSource", "(I)V"⟩
abbrev cX6_needAsker : ByteArray := prog_1_method_35_code
def yX6_needAsker : MethodName := ⟨RX6, "needAsker", "(I)V"⟩
abbrev cX6_needPeople : ByteArray := prog_1_method_36_code
def yX6_needPeople : MethodName := ⟨RX6, "needPeople", "(I)V"⟩
abbrev cX6_needSomePeople : ByteArray := prog_1_method_37_code
def yX6_needSomePeople : MethodName := ⟨RX6, "needSomePeople", "(I)V"⟩
def RX7 : String := "DegreewallModel$Rows"
def TX7 : u_T := fun k => match k with
  | _ => ("", "", "", false)
def tyX7 : Nat → FieldType := fun k => match k with
  | _ => .int
abbrev wsX70 : List Cond := u_ws RX7 TX7 0
theorem nmX7 : ∀ a, a < 0 → ∀ b, b < 0 → a ≠ b → (TX7 a).2.1 ≠ (TX7 b).2.1 := by decide +kernel
theorem tyX7_ok : ∀ k, k < 0 → parseFieldDescriptor (TX7 k).2.2.1 = some (tyX7 k) := by decide +kernel
def RX8 : String := "DegreewallModel"
def TX8 : u_T := fun k => match k with
  | _ => ("", "", "", false)
def tyX8 : Nat → FieldType := fun k => match k with
  | _ => .int
abbrev wsX80 : List Cond := u_ws RX8 TX8 0
theorem nmX8 : ∀ a, a < 0 → ∀ b, b < 0 → a ≠ b → (TX8 a).2.1 ≠ (TX8 b).2.1 := by decide +kernel
theorem tyX8_ok : ∀ k, k < 0 → parseFieldDescriptor (TX8 k).2.2.1 = some (tyX8 k) := by decide +kernel
def RJx145de : String := "java/io/Serializable"
def TJx145de : u_T := fun k => match k with
  | _ => ("", "", "", false)
def tyJx145de : Nat → FieldType := fun k => match k with
  | _ => .int
abbrev wsJx145de0 : List Cond := u_ws RJx145de TJx145de 0
theorem nmJx145de : ∀ a, a < 0 → ∀ b, b < 0 → a ≠ b → (TJx145de a).2.1 ≠ (TJx145de b).2.1 := by decide +kernel
theorem tyJx145de_ok : ∀ k, k < 0 → parseFieldDescriptor (TJx145de k).2.2.1 = some (tyJx145de k) := by decide +kernel
def RJx8e188 : String := "java/lang/Cloneable"
def TJx8e188 : u_T := fun k => match k with
  | _ => ("", "", "", false)
def tyJx8e188 : Nat → FieldType := fun k => match k with
  | _ => .int
abbrev wsJx8e1880 : List Cond := u_ws RJx8e188 TJx8e188 0
theorem nmJx8e188 : ∀ a, a < 0 → ∀ b, b < 0 → a ≠ b → (TJx8e188 a).2.1 ≠ (TJx8e188 b).2.1 := by decide +kernel
theorem tyJx8e188_ok : ∀ k, k < 0 → parseFieldDescriptor (TJx8e188 k).2.2.1 = some (tyJx8e188 k) := by decide +kernel
def RJxb160c : String := "java/lang/Comparable"
def TJxb160c : u_T := fun k => match k with
  | _ => ("", "", "", false)
def tyJxb160c : Nat → FieldType := fun k => match k with
  | _ => .int
abbrev wsJxb160c0 : List Cond := u_ws RJxb160c TJxb160c 0
theorem nmJxb160c : ∀ a, a < 0 → ∀ b, b < 0 → a ≠ b → (TJxb160c a).2.1 ≠ (TJxb160c b).2.1 := by decide +kernel
theorem tyJxb160c_ok : ∀ k, k < 0 → parseFieldDescriptor (TJxb160c k).2.2.1 = some (tyJxb160c k) := by decide +kernel
def RJxabbfe : String := "java/lang/Integer$IntegerCache"
def TJxabbfe : u_T := fun k => match k with
  | _ => ("", "", "", false)
def tyJxabbfe : Nat → FieldType := fun k => match k with
  | _ => .int
abbrev wsJxabbfe0 : List Cond := u_ws RJxabbfe TJxabbfe 0
theorem nmJxabbfe : ∀ a, a < 0 → ∀ b, b < 0 → a ≠ b → (TJxabbfe a).2.1 ≠ (TJxabbfe b).2.1 := by decide +kernel
theorem tyJxabbfe_ok : ∀ k, k < 0 → parseFieldDescriptor (TJxabbfe k).2.2.1 = some (tyJxabbfe k) := by decide +kernel
def RJ6 : String := "java/lang/Integer"
def TJ6 : u_T := fun k => match k with
  | _ => ("java/lang/Integer", "value", "I", true)
def tyJ6 : Nat → FieldType := fun k => match k with
  | _ => .int
abbrev wsJ60 : List Cond := u_ws RJ6 TJ6 1
theorem nmJ6 : ∀ a, a < 1 → ∀ b, b < 1 → a ≠ b → (TJ6 a).2.1 ≠ (TJ6 b).2.1 := by decide +kernel
theorem tyJ6_ok : ∀ k, k < 1 → parseFieldDescriptor (TJ6 k).2.2.1 = some (tyJ6 k) := by decide +kernel
abbrev cJ6_valueOf_2dffe : ByteArray := prog_18_method_22_code
def yJ6_valueOf_2dffe : MethodName := ⟨RJ6, "valueOf", "(I)Ljava/lang/Integer;"⟩
abbrev cJ6_init_d00df : ByteArray := prog_18_method_23_code
def yJ6_init_d00df : MethodName := ⟨RJ6, "<init>", "(I)V"⟩
abbrev cJ6_intValue_8abf5 : ByteArray := prog_18_method_27_code
def yJ6_intValue_8abf5 : MethodName := ⟨RJ6, "intValue", "()I"⟩
abbrev cJ6_bitCount_0f7a4 : ByteArray := prog_18_method_49_code
def yJ6_bitCount_0f7a4 : MethodName := ⟨RJ6, "bitCount", "(I)I"⟩
def RJxab1ab : String := "java/lang/Iterable"
def TJxab1ab : u_T := fun k => match k with
  | _ => ("", "", "", false)
def tyJxab1ab : Nat → FieldType := fun k => match k with
  | _ => .int
abbrev wsJxab1ab0 : List Cond := u_ws RJxab1ab TJxab1ab 0
theorem nmJxab1ab : ∀ a, a < 0 → ∀ b, b < 0 → a ≠ b → (TJxab1ab a).2.1 ≠ (TJxab1ab b).2.1 := by decide +kernel
theorem tyJxab1ab_ok : ∀ k, k < 0 → parseFieldDescriptor (TJxab1ab k).2.2.1 = some (tyJxab1ab k) := by decide +kernel
def RJ9 : String := "java/lang/Math"
def TJ9 : u_T := fun k => match k with
  | _ => ("", "", "", false)
def tyJ9 : Nat → FieldType := fun k => match k with
  | _ => .int
abbrev wsJ90 : List Cond := u_ws RJ9 TJ9 0
theorem nmJ9 : ∀ a, a < 0 → ∀ b, b < 0 → a ≠ b → (TJ9 a).2.1 ≠ (TJ9 b).2.1 := by decide +kernel
theorem tyJ9_ok : ∀ k, k < 0 → parseFieldDescriptor (TJ9 k).2.2.1 = some (tyJ9 k) := by decide +kernel
abbrev cJ9_floorMod_f86c9 : ByteArray := prog_21_method_52_code
def yJ9_floorMod_f86c9 : MethodName := ⟨RJ9, "floorMod", "(JJ)J"⟩
abbrev cJ9_max_7cf53 : ByteArray := prog_21_method_65_code
def yJ9_max_7cf53 : MethodName := ⟨RJ9, "max", "(II)I"⟩
abbrev cJ9_min_7cf53 : ByteArray := prog_21_method_69_code
def yJ9_min_7cf53 : MethodName := ⟨RJ9, "min", "(II)I"⟩
def RJxd2413 : String := "java/lang/Number"
def TJxd2413 : u_T := fun k => match k with
  | _ => ("", "", "", false)
def tyJxd2413 : Nat → FieldType := fun k => match k with
  | _ => .int
abbrev wsJxd24130 : List Cond := u_ws RJxd2413 TJxd2413 0
theorem nmJxd2413 : ∀ a, a < 0 → ∀ b, b < 0 → a ≠ b → (TJxd2413 a).2.1 ≠ (TJxd2413 b).2.1 := by decide +kernel
theorem tyJxd2413_ok : ∀ k, k < 0 → parseFieldDescriptor (TJxd2413 k).2.2.1 = some (tyJxd2413 k) := by decide +kernel
abbrev cJxd2413_init_da8c8 : ByteArray := prog_22_method_1_code
def yJxd2413_init_da8c8 : MethodName := ⟨RJxd2413, "<init>", "()V"⟩
def RJ0 : String := "java/lang/String"
def TJ0 : u_T := fun k => match k with
  | _ => ("", "", "", false)
def tyJ0 : Nat → FieldType := fun k => match k with
  | _ => .int
abbrev wsJ00 : List Cond := u_ws RJ0 TJ0 0
theorem nmJ0 : ∀ a, a < 0 → ∀ b, b < 0 → a ≠ b → (TJ0 a).2.1 ≠ (TJ0 b).2.1 := by decide +kernel
theorem tyJ0_ok : ∀ k, k < 0 → parseFieldDescriptor (TJ0 k).2.2.1 = some (tyJ0 k) := by decide +kernel
def RJ10 : String := "java/lang/System"
def TJ10 : u_T := fun k => match k with
  | _ => ("", "", "", false)
def tyJ10 : Nat → FieldType := fun k => match k with
  | _ => .int
abbrev wsJ100 : List Cond := u_ws RJ10 TJ10 0
theorem nmJ10 : ∀ a, a < 0 → ∀ b, b < 0 → a ≠ b → (TJ10 a).2.1 ≠ (TJ10 b).2.1 := by decide +kernel
theorem tyJ10_ok : ∀ k, k < 0 → parseFieldDescriptor (TJ10 k).2.2.1 = some (tyJ10 k) := by decide +kernel
def RJxfd54e : String := "java/lang/constant/Constable"
def TJxfd54e : u_T := fun k => match k with
  | _ => ("", "", "", false)
def tyJxfd54e : Nat → FieldType := fun k => match k with
  | _ => .int
abbrev wsJxfd54e0 : List Cond := u_ws RJxfd54e TJxfd54e 0
theorem nmJxfd54e : ∀ a, a < 0 → ∀ b, b < 0 → a ≠ b → (TJxfd54e a).2.1 ≠ (TJxfd54e b).2.1 := by decide +kernel
theorem tyJxfd54e_ok : ∀ k, k < 0 → parseFieldDescriptor (TJxfd54e k).2.2.1 = some (tyJxfd54e k) := by decide +kernel
def RJx3cf43 : String := "java/lang/constant/ConstantDesc"
def TJx3cf43 : u_T := fun k => match k with
  | _ => ("", "", "", false)
def tyJx3cf43 : Nat → FieldType := fun k => match k with
  | _ => .int
abbrev wsJx3cf430 : List Cond := u_ws RJx3cf43 TJx3cf43 0
theorem nmJx3cf43 : ∀ a, a < 0 → ∀ b, b < 0 → a ≠ b → (TJx3cf43 a).2.1 ≠ (TJx3cf43 b).2.1 := by decide +kernel
theorem tyJx3cf43_ok : ∀ k, k < 0 → parseFieldDescriptor (TJx3cf43 k).2.2.1 = some (tyJx3cf43 k) := by decide +kernel
def RJxa1e45 : String := "java/util/AbstractCollection"
def TJxa1e45 : u_T := fun k => match k with
  | _ => ("", "", "", false)
def tyJxa1e45 : Nat → FieldType := fun k => match k with
  | _ => .int
abbrev wsJxa1e450 : List Cond := u_ws RJxa1e45 TJxa1e45 0
theorem nmJxa1e45 : ∀ a, a < 0 → ∀ b, b < 0 → a ≠ b → (TJxa1e45 a).2.1 ≠ (TJxa1e45 b).2.1 := by decide +kernel
theorem tyJxa1e45_ok : ∀ k, k < 0 → parseFieldDescriptor (TJxa1e45 k).2.2.1 = some (tyJxa1e45 k) := by decide +kernel
abbrev cJxa1e45_init_da8c8 : ByteArray := prog_29_method_1_code
def yJxa1e45_init_da8c8 : MethodName := ⟨RJxa1e45, "<init>", "()V"⟩
def RJxc12de : String := "java/util/AbstractList"
def TJxc12de : u_T := fun k => match k with
  | _ => ("", "", "", false)
def tyJxc12de : Nat → FieldType := fun k => match k with
  | _ => .int
abbrev wsJxc12de0 : List Cond := u_ws RJxc12de TJxc12de 0
theorem nmJxc12de : ∀ a, a < 0 → ∀ b, b < 0 → a ≠ b → (TJxc12de a).2.1 ≠ (TJxc12de b).2.1 := by decide +kernel
theorem tyJxc12de_ok : ∀ k, k < 0 → parseFieldDescriptor (TJxc12de k).2.2.1 = some (tyJxc12de k) := by decide +kernel
abbrev cJxc12de_init_da8c8 : ByteArray := prog_30_method_1_code
def yJxc12de_init_da8c8 : MethodName := ⟨RJxc12de, "<init>", "()V"⟩
def RJx35411 : String := "java/util/ArrayList$Itr"
def TJx35411 : u_T := fun k => match k with
  | 0 => ("java/util/ArrayList$Itr", "cursor", "I", false)
  | 1 => ("java/util/ArrayList$Itr", "lastRet", "I", false)
  | 2 => ("java/util/ArrayList$Itr", "expectedModCount", "I", false)
  | _ => ("java/util/ArrayList$Itr", "this$0", "Ljava/util/ArrayList;", true)
def tyJx35411 : Nat → FieldType := fun k => match k with
  | 0 => .int
  | 1 => .int
  | 2 => .int
  | _ => .object "java/util/ArrayList"
abbrev wsJx354110 : List Cond := u_ws RJx35411 TJx35411 4
theorem nmJx35411 : ∀ a, a < 4 → ∀ b, b < 4 → a ≠ b → (TJx35411 a).2.1 ≠ (TJx35411 b).2.1 := by decide +kernel
theorem tyJx35411_ok : ∀ k, k < 4 → parseFieldDescriptor (TJx35411 k).2.2.1 = some (tyJx35411 k) := by decide +kernel
abbrev cJx35411_init_45d68 : ByteArray := prog_32_method_1_code
def yJx35411_init_45d68 : MethodName := ⟨RJx35411, "<init>", "(Ljava/util/ArrayList;)V"⟩
abbrev cJx35411_hasNext_aae02 : ByteArray := prog_32_method_2_code
def yJx35411_hasNext_aae02 : MethodName := ⟨RJx35411, "hasNext", "()Z"⟩
abbrev cJx35411_next_0502b : ByteArray := prog_32_method_3_code
def yJx35411_next_0502b : MethodName := ⟨RJx35411, "next", "()Ljava/lang/Object;"⟩
abbrev cJx35411_checkForComodification_da8c8 : ByteArray := prog_32_method_6_code
def yJx35411_checkForComodification_da8c8 : MethodName := ⟨RJx35411, "checkForComodification", "()V"⟩
def RJx4a65c : String := "java/util/ArrayList"
def TJx4a65c : u_T := fun k => match k with
  | 0 => ("java/util/AbstractList", "modCount", "I", false)
  | 1 => ("java/util/ArrayList", "elementData", "[Ljava/lang/Object;", false)
  | _ => ("java/util/ArrayList", "size", "I", false)
def tyJx4a65c : Nat → FieldType := fun k => match k with
  | 0 => .int
  | 1 => .array (.object "java/lang/Object")
  | _ => .int
abbrev wsJx4a65c0 : List Cond := u_ws RJx4a65c TJx4a65c 3
theorem nmJx4a65c : ∀ a, a < 3 → ∀ b, b < 3 → a ≠ b → (TJx4a65c a).2.1 ≠ (TJx4a65c b).2.1 := by decide +kernel
theorem tyJx4a65c_ok : ∀ k, k < 3 → parseFieldDescriptor (TJx4a65c k).2.2.1 = some (tyJx4a65c k) := by decide +kernel
abbrev cJx4a65c_init_da8c8 : ByteArray := prog_31_method_2_code
def yJx4a65c_init_da8c8 : MethodName := ⟨RJx4a65c, "<init>", "()V"⟩
abbrev cJx4a65c_grow_92f84 : ByteArray := prog_31_method_6_code
def yJx4a65c_grow_92f84 : MethodName := ⟨RJx4a65c, "grow", "(I)[Ljava/lang/Object;"⟩
abbrev cJx4a65c_grow_d5877 : ByteArray := prog_31_method_7_code
def yJx4a65c_grow_d5877 : MethodName := ⟨RJx4a65c, "grow", "()[Ljava/lang/Object;"⟩
abbrev cJx4a65c_size_8abf5 : ByteArray := prog_31_method_8_code
def yJx4a65c_size_8abf5 : MethodName := ⟨RJx4a65c, "size", "()I"⟩
abbrev cJx4a65c_elementData_915e3 : ByteArray := prog_31_method_18_code
def yJx4a65c_elementData_915e3 : MethodName := ⟨RJx4a65c, "elementData", "(I)Ljava/lang/Object;"⟩
abbrev cJx4a65c_get_915e3 : ByteArray := prog_31_method_20_code
def yJx4a65c_get_915e3 : MethodName := ⟨RJx4a65c, "get", "(I)Ljava/lang/Object;"⟩
abbrev cJx4a65c_add_72be8 : ByteArray := prog_31_method_24_code
def yJx4a65c_add_72be8 : MethodName := ⟨RJx4a65c, "add", "(Ljava/lang/Object;[Ljava/lang/Object;I)V"⟩
abbrev cJx4a65c_add_9ea2d : ByteArray := prog_31_method_25_code
def yJx4a65c_add_9ea2d : MethodName := ⟨RJx4a65c, "add", "(Ljava/lang/Object;)Z"⟩
abbrev cJx4a65c_iterator_32c93 : ByteArray := prog_31_method_55_code
def yJx4a65c_iterator_32c93 : MethodName := ⟨RJx4a65c, "iterator", "()Ljava/util/Iterator;"⟩
def RJ7 : String := "java/util/Arrays"
def TJ7 : u_T := fun k => match k with
  | _ => ("", "", "", false)
def tyJ7 : Nat → FieldType := fun k => match k with
  | _ => .int
abbrev wsJ70 : List Cond := u_ws RJ7 TJ7 0
theorem nmJ7 : ∀ a, a < 0 → ∀ b, b < 0 → a ≠ b → (TJ7 a).2.1 ≠ (TJ7 b).2.1 := by decide +kernel
theorem tyJ7_ok : ∀ k, k < 0 → parseFieldDescriptor (TJ7 k).2.2.1 = some (tyJ7 k) := by decide +kernel
abbrev cJ7_copyOf_1904c : ByteArray := prog_33_method_119_code
def yJ7_copyOf_1904c : MethodName := ⟨RJ7, "copyOf", "([Ljava/lang/Object;I)[Ljava/lang/Object;"⟩
abbrev cJ7_copyOf_6403c : ByteArray := prog_33_method_120_code
def yJ7_copyOf_6403c : MethodName := ⟨RJ7, "copyOf", "([Ljava/lang/Object;ILjava/lang/Class;)[Ljava/lang/Object;"⟩
def RJx5ef63 : String := "java/util/Collection"
def TJx5ef63 : u_T := fun k => match k with
  | _ => ("", "", "", false)
def tyJx5ef63 : Nat → FieldType := fun k => match k with
  | _ => .int
abbrev wsJx5ef630 : List Cond := u_ws RJx5ef63 TJx5ef63 0
theorem nmJx5ef63 : ∀ a, a < 0 → ∀ b, b < 0 → a ≠ b → (TJx5ef63 a).2.1 ≠ (TJx5ef63 b).2.1 := by decide +kernel
theorem tyJx5ef63_ok : ∀ k, k < 0 → parseFieldDescriptor (TJx5ef63 k).2.2.1 = some (tyJx5ef63 k) := by decide +kernel
def RJx4d0d8 : String := "java/util/Iterator"
def TJx4d0d8 : u_T := fun k => match k with
  | _ => ("", "", "", false)
def tyJx4d0d8 : Nat → FieldType := fun k => match k with
  | _ => .int
abbrev wsJx4d0d80 : List Cond := u_ws RJx4d0d8 TJx4d0d8 0
theorem nmJx4d0d8 : ∀ a, a < 0 → ∀ b, b < 0 → a ≠ b → (TJx4d0d8 a).2.1 ≠ (TJx4d0d8 b).2.1 := by decide +kernel
theorem tyJx4d0d8_ok : ∀ k, k < 0 → parseFieldDescriptor (TJx4d0d8 k).2.2.1 = some (tyJx4d0d8 k) := by decide +kernel
def RJxbd725 : String := "java/util/List"
def TJxbd725 : u_T := fun k => match k with
  | _ => ("", "", "", false)
def tyJxbd725 : Nat → FieldType := fun k => match k with
  | _ => .int
abbrev wsJxbd7250 : List Cond := u_ws RJxbd725 TJxbd725 0
theorem nmJxbd725 : ∀ a, a < 0 → ∀ b, b < 0 → a ≠ b → (TJxbd725 a).2.1 ≠ (TJxbd725 b).2.1 := by decide +kernel
theorem tyJxbd725_ok : ∀ k, k < 0 → parseFieldDescriptor (TJxbd725 k).2.2.1 = some (tyJxbd725 k) := by decide +kernel
def RJ15 : String := "java/util/Objects"
def TJ15 : u_T := fun k => match k with
  | _ => ("", "", "", false)
def tyJ15 : Nat → FieldType := fun k => match k with
  | _ => .int
abbrev wsJ150 : List Cond := u_ws RJ15 TJ15 0
theorem nmJ15 : ∀ a, a < 0 → ∀ b, b < 0 → a ≠ b → (TJ15 a).2.1 ≠ (TJ15 b).2.1 := by decide +kernel
theorem tyJ15_ok : ∀ k, k < 0 → parseFieldDescriptor (TJ15 k).2.2.1 = some (tyJ15 k) := by decide +kernel
abbrev cJ15_checkIndex_7cf53 : ByteArray := prog_37_method_17_code
def yJ15_checkIndex_7cf53 : MethodName := ⟨RJ15, "checkIndex", "(II)I"⟩
def RJxf0a74 : String := "java/util/RandomAccess"
def TJxf0a74 : u_T := fun k => match k with
  | _ => ("", "", "", false)
def tyJxf0a74 : Nat → FieldType := fun k => match k with
  | _ => .int
abbrev wsJxf0a740 : List Cond := u_ws RJxf0a74 TJxf0a74 0
theorem nmJxf0a74 : ∀ a, a < 0 → ∀ b, b < 0 → a ≠ b → (TJxf0a74 a).2.1 ≠ (TJxf0a74 b).2.1 := by decide +kernel
theorem tyJxf0a74_ok : ∀ k, k < 0 → parseFieldDescriptor (TJxf0a74 k).2.2.1 = some (tyJxf0a74 k) := by decide +kernel
def RJxa66e6 : String := "java/util/SequencedCollection"
def TJxa66e6 : u_T := fun k => match k with
  | _ => ("", "", "", false)
def tyJxa66e6 : Nat → FieldType := fun k => match k with
  | _ => .int
abbrev wsJxa66e60 : List Cond := u_ws RJxa66e6 TJxa66e6 0
theorem nmJxa66e6 : ∀ a, a < 0 → ∀ b, b < 0 → a ≠ b → (TJxa66e6 a).2.1 ≠ (TJxa66e6 b).2.1 := by decide +kernel
theorem tyJxa66e6_ok : ∀ k, k < 0 → parseFieldDescriptor (TJxa66e6 k).2.2.1 = some (tyJxa66e6 k) := by decide +kernel
def RJ8 : String := "jdk/internal/util/ArraysSupport"
def TJ8 : u_T := fun k => match k with
  | _ => ("", "", "", false)
def tyJ8 : Nat → FieldType := fun k => match k with
  | _ => .int
abbrev wsJ80 : List Cond := u_ws RJ8 TJ8 0
theorem nmJ8 : ∀ a, a < 0 → ∀ b, b < 0 → a ≠ b → (TJ8 a).2.1 ≠ (TJ8 b).2.1 := by decide +kernel
theorem tyJ8_ok : ∀ k, k < 0 → parseFieldDescriptor (TJ8 k).2.2.1 = some (tyJ8 k) := by decide +kernel
abbrev cJ8_newLength_cabcc : ByteArray := prog_40_method_27_code
def yJ8_newLength_cabcc : MethodName := ⟨RJ8, "newLength", "(III)I"⟩
abbrev cJ8_hugeLength_7cf53 : ByteArray := prog_40_method_28_code
def yJ8_hugeLength_7cf53 : MethodName := ⟨RJ8, "hugeLength", "(II)I"⟩
def RJ3 : String := "jdk/internal/util/Preconditions"
def TJ3 : u_T := fun k => match k with
  | _ => ("", "", "", false)
def tyJ3 : Nat → FieldType := fun k => match k with
  | _ => .int
abbrev wsJ30 : List Cond := u_ws RJ3 TJ3 0
theorem nmJ3 : ∀ a, a < 0 → ∀ b, b < 0 → a ≠ b → (TJ3 a).2.1 ≠ (TJ3 b).2.1 := by decide +kernel
theorem tyJ3_ok : ∀ k, k < 0 → parseFieldDescriptor (TJ3 k).2.2.1 = some (tyJ3 k) := by decide +kernel
abbrev cJ3_checkIndex_8e157 : ByteArray := prog_41_method_11_code
def yJ3_checkIndex_8e157 : MethodName := ⟨RJ3, "checkIndex", "(IILjava/util/function/BiFunction;)I"⟩
def RL : String := "DegreewallLaw"
abbrev cL_below : ByteArray := method_2_code
def yL_below : MethodName := ⟨RL, "below", "(II)I"⟩
abbrev cL_cell : ByteArray := method_3_code
def yL_cell : MethodName := ⟨RL, "cell", "([II)I"⟩
abbrev cL_drawn : ByteArray := method_4_code
def yL_drawn : MethodName := ⟨RL, "drawn", "([III)I"⟩
abbrev cL_isIn : ByteArray := method_5_code
def yL_isIn : MethodName := ⟨RL, "isIn", "(Ljava/util/List;I)Z"⟩
abbrev cL_rank : ByteArray := method_6_code
def yL_rank : MethodName := ⟨RL, "rank", "(Ljava/util/List;I)I"⟩
abbrev cL_law : ByteArray := code
def yL_law : MethodName := ⟨RL, "law", "([I)Z"⟩
abbrev cL_isShut : ByteArray := method_8_code
def yL_isShut : MethodName := ⟨RL, "isShut", "([I[[III)Z"⟩
abbrev vwCl : List vw_C := [(RJ6, TJ6, 1), (RJx35411, TJx35411, 4), (RJx4a65c, TJx4a65c, 3), (RX0, TX0, 4), (RX1, TX1, 1), (RX2, TX2, 8), (RX3, TX3, 3), (RX4, TX4, 9), (RX5, TX5, 3), (RX6, TX6, 5)]
end
section
def wsX1_init : List Cond := .code yX1_init cX1_init 1 none :: ([.methodLink RX1 3 objectInit, .instanceMethod objectInit, .code objectInit ⟨#[0xb1]⟩ 1 none, .arrayClass .int, .fieldLink RX1 9 "Degreewall$Links" "near" "[I"] ++ wsX10)
def wsX0_init : List Cond := .code yX0_init cX0_init 1 none :: ([.methodLink RX0 3 objectInit, .instanceMethod objectInit, .code objectInit ⟨#[0xb1]⟩ 1 none, .classLink RX0 9 RX1, .instantiable RX1 1, .initialized RX1, .fieldLink RX0 12 "Degreewall$Kinship" "kin" "LDegreewall$Links;", .arrayClass .int, .fieldLink RX0 18 "Degreewall$Kinship" "barred" "[I", .fieldLink RX0 22 "Degreewall$Kinship" "bar" "I", .instanceMethod yX1_init, .code yX1_init cX1_init 1 none, .methodLink RX1 3 objectInit, .fieldLink RX1 9 "Degreewall$Links" "near" "[I"] ++ wsX10 ++ wsX00)
def wsX0_count : List Cond := .code yX0_count cX0_count 1 (some .int) :: ([.fieldLink RX0 26 "Degreewall$Kinship" "count" "I"] ++ wsX00)
def wsX0_knows : List Cond := .code yX0_knows cX0_knows 2 (some .boolean) :: ([.fieldLink RX0 26 "Degreewall$Kinship" "count" "I"] ++ wsX00)
def wsX0_barNow : List Cond := .code yX0_barNow cX0_barNow 1 (some .int) :: ([.fieldLink RX0 22 "Degreewall$Kinship" "bar" "I"] ++ wsX00)
def wsX0_addSource : List Cond := .code yX0_addSource cX0_addSource 1 (some .int) :: ([.fieldLink RX0 26 "Degreewall$Kinship" "count" "I"] ++ wsX00)
def wsX1_link : List Cond := .code yX1_link cX1_link 3 none :: ([.fieldLink RX1 9 "Degreewall$Links" "near" "[I"] ++ wsX10)
def wsX1_cut : List Cond := .code yX1_cut cX1_cut 3 none :: ([.fieldLink RX1 9 "Degreewall$Links" "near" "[I"] ++ wsX10)
def wsX6_contains : List Cond := .code yX6_contains cX6_contains 2 (some .boolean) :: ([])
def wsX1_widened : List Cond := .code yX1_widened cX1_widened 4 (some .int) :: ([.fieldLink RX1 9 "Degreewall$Links" "near" "[I", .static yX6_contains, .initialized RX6, .code yX6_contains cX6_contains 2 (some .boolean)] ++ wsX10)
def wsX1_reach : List Cond := .code yX1_reach cX1_reach 5 (some .int) :: ([.methodLink RX1 15 yX1_widened, .instanceMethod yX1_widened, .selects RX1 yX1_widened yX1_widened, .initialized RX1, .code yX1_widened cX1_widened 4 (some .int), .fieldLink RX1 9 "Degreewall$Links" "near" "[I", .static yX6_contains, .initialized RX6, .code yX6_contains cX6_contains 2 (some .boolean)] ++ wsX10)
def wsX0_findBarred : List Cond := .code yX0_findBarred cX0_findBarred 2 none :: ([.fieldLink RX0 18 "Degreewall$Kinship" "barred" "[I", .fieldLink RX0 12 "Degreewall$Kinship" "kin" "LDegreewall$Links;", .fieldLink RX0 22 "Degreewall$Kinship" "bar" "I", .methodLink RX0 51 yX1_reach, .instanceMethod yX1_reach, .selects RX1 yX1_reach yX1_reach, .initialized RX1, .code yX1_reach cX1_reach 5 (some .int), .methodLink RX1 15 yX1_widened, .instanceMethod yX1_widened, .selects RX1 yX1_widened yX1_widened, .code yX1_widened cX1_widened 4 (some .int), .fieldLink RX1 9 "Degreewall$Links" "near" "[I", .static yX6_contains, .initialized RX6, .code yX6_contains cX6_contains 2 (some .boolean)] ++ wsX00 ++ wsX10)
def wsX0_tellKin_r1 : List Cond := [Cond.fieldLink RX0 12 "Degreewall$Kinship" "kin" "LDegreewall$Links;", Cond.methodLink RX0 29 yX1_link, Cond.instanceMethod yX1_link, Cond.selects RX1 yX1_link yX1_link, Cond.initialized RX1, Cond.code yX1_link cX1_link 3 none, Cond.fieldLink RX1 9 "Degreewall$Links" "near" "[I", Cond.methodLink RX0 33 yX1_cut, Cond.instanceMethod yX1_cut, Cond.selects RX1 yX1_cut yX1_cut, Cond.code yX1_cut cX1_cut 3 none, Cond.methodLink RX0 36 yX0_findBarred, Cond.instanceMethod yX0_findBarred, Cond.selects RX0 yX0_findBarred yX0_findBarred, Cond.initialized RX0, Cond.code yX0_findBarred cX0_findBarred 2 none, Cond.fieldLink RX0 18 "Degreewall$Kinship" "barred" "[I", Cond.fieldLink RX0 22 "Degreewall$Kinship" "bar" "I", Cond.methodLink RX0 51 yX1_reach, Cond.instanceMethod yX1_reach, Cond.selects RX1 yX1_reach yX1_reach, Cond.code yX1_reach cX1_reach 5 (some .int), Cond.methodLink RX1 15 yX1_widened, Cond.instanceMethod yX1_widened]
def wsX0_tellKin_r2 : List Cond := [Cond.selects RX1 yX1_widened yX1_widened, Cond.code yX1_widened cX1_widened 4 (some .int), Cond.static yX6_contains, Cond.initialized RX6, Cond.code yX6_contains cX6_contains 2 (some .boolean)]
def wsX0_tellKin : List Cond := .code yX0_tellKin cX0_tellKin 4 none :: ((wsX0_tellKin_r1 ++ wsX0_tellKin_r2) ++ wsX00 ++ wsX10)
def wsX0_tellBar : List Cond := .code yX0_tellBar cX0_tellBar 2 none :: ([.fieldLink RX0 22 "Degreewall$Kinship" "bar" "I", .methodLink RX0 36 yX0_findBarred, .instanceMethod yX0_findBarred, .selects RX0 yX0_findBarred yX0_findBarred, .initialized RX0, .code yX0_findBarred cX0_findBarred 2 none, .fieldLink RX0 18 "Degreewall$Kinship" "barred" "[I", .fieldLink RX0 12 "Degreewall$Kinship" "kin" "LDegreewall$Links;", .methodLink RX0 51 yX1_reach, .instanceMethod yX1_reach, .selects RX1 yX1_reach yX1_reach, .initialized RX1, .code yX1_reach cX1_reach 5 (some .int), .methodLink RX1 15 yX1_widened, .instanceMethod yX1_widened, .selects RX1 yX1_widened yX1_widened, .code yX1_widened cX1_widened 4 (some .int), .fieldLink RX1 9 "Degreewall$Links" "near" "[I", .static yX6_contains, .initialized RX6, .code yX6_contains cX6_contains 2 (some .boolean)] ++ wsX00 ++ wsX10)
def wsX1_nextTo : List Cond := .code yX1_nextTo cX1_nextTo 2 (some .int) :: ([.fieldLink RX1 9 "Degreewall$Links" "near" "[I"] ++ wsX10)
def wsX0_kinOf : List Cond := .code yX0_kinOf cX0_kinOf 2 (some .int) :: ([.fieldLink RX0 12 "Degreewall$Kinship" "kin" "LDegreewall$Links;", .methodLink RX0 39 yX1_nextTo, .instanceMethod yX1_nextTo, .selects RX1 yX1_nextTo yX1_nextTo, .initialized RX1, .code yX1_nextTo cX1_nextTo 2 (some .int), .fieldLink RX1 9 "Degreewall$Links" "near" "[I"] ++ wsX00 ++ wsX10)
def wsX0_within : List Cond := .code yX0_within cX0_within 2 (some .int) :: ([.fieldLink RX0 18 "Degreewall$Kinship" "barred" "[I"] ++ wsX00)
def wsX0_firstPairWithin : List Cond := .code yX0_firstPairWithin cX0_firstPairWithin 5 (some .int) :: ([.fieldLink RX0 26 "Degreewall$Kinship" "count" "I", .fieldLink RX0 18 "Degreewall$Kinship" "barred" "[I", .static yX6_contains, .initialized RX6, .code yX6_contains cX6_contains 2 (some .boolean)] ++ wsX00)
def wsX1_cutAll : List Cond := .code yX1_cutAll cX1_cutAll 2 none :: ([.fieldLink RX1 9 "Degreewall$Links" "near" "[I"] ++ wsX10)
def wsX2_init : List Cond := .code yX2_init cX2_init 1 none :: ([.methodLink RX2 3 objectInit, .instanceMethod objectInit, .code objectInit ⟨#[0xb1]⟩ 1 none, .arrayClass .int, .fieldLink RX2 9 "Degreewall$Permits" "smaller" "[I", .fieldLink RX2 15 "Degreewall$Permits" "greater" "[I", .fieldLink RX2 18 "Degreewall$Permits" "lastDay" "[I", .classLink RX2 21 RX1, .instantiable RX1 1, .initialized RX1, .fieldLink RX2 24 "Degreewall$Permits" "chains" "LDegreewall$Links;", .instanceMethod yX1_init, .code yX1_init cX1_init 1 none, .methodLink RX1 3 objectInit, .fieldLink RX1 9 "Degreewall$Links" "near" "[I"] ++ wsX20 ++ wsX10)
def wsX2_count : List Cond := .code yX2_count cX2_count 1 (some .int) :: ([.fieldLink RX2 28 "Degreewall$Permits" "count" "I"] ++ wsX20)
def wsX2_today : List Cond := .code yX2_today cX2_today 1 (some .int) :: ([.fieldLink RX2 32 "Degreewall$Permits" "today" "I"] ++ wsX20)
def wsX2_repair : List Cond := .code yX2_repair cX2_repair 1 (some .int) :: ([.fieldLink RX2 35 "Degreewall$Permits" "repair" "I"] ++ wsX20)
def wsX2_isInForce : List Cond := .code yX2_isInForce cX2_isInForce 2 (some .boolean) :: ([.fieldLink RX2 32 "Degreewall$Permits" "today" "I", .fieldLink RX2 18 "Degreewall$Permits" "lastDay" "[I", .fieldLink RX2 38 "Degreewall$Permits" "revoked" "I", .static yX6_contains, .initialized RX6, .code yX6_contains cX6_contains 2 (some .boolean)] ++ wsX20)
def wsX2_inForce : List Cond := .code yX2_inForce cX2_inForce 3 (some .int) :: ([.fieldLink RX2 28 "Degreewall$Permits" "count" "I", .methodLink RX2 64 yX2_isInForce, .instanceMethod yX2_isInForce, .selects RX2 yX2_isInForce yX2_isInForce, .initialized RX2, .code yX2_isInForce cX2_isInForce 2 (some .boolean), .fieldLink RX2 32 "Degreewall$Permits" "today" "I", .fieldLink RX2 18 "Degreewall$Permits" "lastDay" "[I", .fieldLink RX2 38 "Degreewall$Permits" "revoked" "I", .static yX6_contains, .initialized RX6, .code yX6_contains cX6_contains 2 (some .boolean)] ++ wsX20)
def wsJ6_bitCount_0f7a4 : List Cond := .code yJ6_bitCount_0f7a4 cJ6_bitCount_0f7a4 1 (some .int) :: ([.constant RJ6 265 (1431655765), .constant RJ6 266 (858993459), .constant RJ6 267 (252645135)])
def wsX2_countInForce : List Cond := .code yX2_countInForce cX2_countInForce 1 (some .int) :: ([.methodLink RX2 45 yX2_inForce, .instanceMethod yX2_inForce, .selects RX2 yX2_inForce yX2_inForce, .initialized RX2, .code yX2_inForce cX2_inForce 3 (some .int), .fieldLink RX2 28 "Degreewall$Permits" "count" "I", .methodLink RX2 64 yX2_isInForce, .instanceMethod yX2_isInForce, .selects RX2 yX2_isInForce yX2_isInForce, .code yX2_isInForce cX2_isInForce 2 (some .boolean), .fieldLink RX2 32 "Degreewall$Permits" "today" "I", .fieldLink RX2 18 "Degreewall$Permits" "lastDay" "[I", .fieldLink RX2 38 "Degreewall$Permits" "revoked" "I", .static yX6_contains, .initialized RX6, .code yX6_contains cX6_contains 2 (some .boolean), .methodLink RX2 49 yJ6_bitCount_0f7a4, .static yJ6_bitCount_0f7a4, .initialized RJ6, .code yJ6_bitCount_0f7a4 cJ6_bitCount_0f7a4 1 (some .int), .constant RJ6 265 (1431655765), .constant RJ6 266 (858993459), .constant RJ6 267 (252645135)] ++ wsX20)
def wsX2_add : List Cond := .code yX2_add cX2_add 4 (some .int) :: ([.fieldLink RX2 9 "Degreewall$Permits" "smaller" "[I", .fieldLink RX2 28 "Degreewall$Permits" "count" "I", .methodLink RX2 55 Lib.Math.min.name, .static Lib.Math.min.name, .initialized "java/lang/Math", .code Lib.Math.min.name Lib.Math.min.code 2 (some .int), .fieldLink RX2 15 "Degreewall$Permits" "greater" "[I", .methodLink RX2 61 Lib.Math.max.name, .static Lib.Math.max.name, .code Lib.Math.max.name Lib.Math.max.code 2 (some .int), .fieldLink RX2 18 "Degreewall$Permits" "lastDay" "[I", .fieldLink RX2 32 "Degreewall$Permits" "today" "I"] ++ wsX20)
def wsX2_layOut : List Cond := .code yX2_layOut cX2_layOut 3 none :: ([.fieldLink RX2 24 "Degreewall$Permits" "chains" "LDegreewall$Links;", .fieldLink RX2 28 "Degreewall$Permits" "count" "I", .fieldLink RX2 9 "Degreewall$Permits" "smaller" "[I", .fieldLink RX2 15 "Degreewall$Permits" "greater" "[I", .methodLink RX2 85 yX1_cutAll, .instanceMethod yX1_cutAll, .selects RX1 yX1_cutAll yX1_cutAll, .initialized RX1, .code yX1_cutAll cX1_cutAll 2 none, .fieldLink RX1 9 "Degreewall$Links" "near" "[I", .static yX6_contains, .initialized RX6, .code yX6_contains cX6_contains 2 (some .boolean), .methodLink RX2 88 yX1_link, .instanceMethod yX1_link, .selects RX1 yX1_link yX1_link, .code yX1_link cX1_link 3 none] ++ wsX20 ++ wsX10)
def wsX2_chained_r1 : List Cond := [Cond.fieldLink RX2 24 "Degreewall$Permits" "chains" "LDegreewall$Links;", Cond.methodLink RX2 45 yX2_inForce, Cond.instanceMethod yX2_inForce, Cond.selects RX2 yX2_inForce yX2_inForce, Cond.initialized RX2, Cond.code yX2_inForce cX2_inForce 3 (some .int), Cond.fieldLink RX2 28 "Degreewall$Permits" "count" "I", Cond.methodLink RX2 64 yX2_isInForce, Cond.instanceMethod yX2_isInForce, Cond.selects RX2 yX2_isInForce yX2_isInForce, Cond.code yX2_isInForce cX2_isInForce 2 (some .boolean), Cond.fieldLink RX2 32 "Degreewall$Permits" "today" "I", Cond.fieldLink RX2 18 "Degreewall$Permits" "lastDay" "[I", Cond.fieldLink RX2 38 "Degreewall$Permits" "revoked" "I", Cond.static yX6_contains, Cond.initialized RX6, Cond.code yX6_contains cX6_contains 2 (some .boolean), Cond.methodLink RX2 71 yX2_layOut, Cond.instanceMethod yX2_layOut, Cond.selects RX2 yX2_layOut yX2_layOut, Cond.code yX2_layOut cX2_layOut 3 none, Cond.fieldLink RX2 9 "Degreewall$Permits" "smaller" "[I", Cond.fieldLink RX2 15 "Degreewall$Permits" "greater" "[I", Cond.methodLink RX2 85 yX1_cutAll]
def wsX2_chained_r2 : List Cond := [Cond.instanceMethod yX1_cutAll, Cond.selects RX1 yX1_cutAll yX1_cutAll, Cond.initialized RX1, Cond.code yX1_cutAll cX1_cutAll 2 none, Cond.fieldLink RX1 9 "Degreewall$Links" "near" "[I", Cond.methodLink RX2 88 yX1_link, Cond.instanceMethod yX1_link, Cond.selects RX1 yX1_link yX1_link, Cond.code yX1_link cX1_link 3 none, Cond.methodLink RX2 75 yX1_reach, Cond.instanceMethod yX1_reach, Cond.selects RX1 yX1_reach yX1_reach, Cond.code yX1_reach cX1_reach 5 (some .int), Cond.methodLink RX1 15 yX1_widened, Cond.instanceMethod yX1_widened, Cond.selects RX1 yX1_widened yX1_widened, Cond.code yX1_widened cX1_widened 4 (some .int)]
def wsX2_chained : List Cond := .code yX2_chained cX2_chained 2 (some .int) :: ((wsX2_chained_r1 ++ wsX2_chained_r2) ++ wsX20 ++ wsX10)
def wsX2_leaksBy_r1 : List Cond := [Cond.fieldLink RX2 24 "Degreewall$Permits" "chains" "LDegreewall$Links;", Cond.methodLink RX2 71 yX2_layOut, Cond.instanceMethod yX2_layOut, Cond.selects RX2 yX2_layOut yX2_layOut, Cond.initialized RX2, Cond.code yX2_layOut cX2_layOut 3 none, Cond.fieldLink RX2 28 "Degreewall$Permits" "count" "I", Cond.fieldLink RX2 9 "Degreewall$Permits" "smaller" "[I", Cond.fieldLink RX2 15 "Degreewall$Permits" "greater" "[I", Cond.methodLink RX2 85 yX1_cutAll, Cond.instanceMethod yX1_cutAll, Cond.selects RX1 yX1_cutAll yX1_cutAll, Cond.initialized RX1, Cond.code yX1_cutAll cX1_cutAll 2 none, Cond.fieldLink RX1 9 "Degreewall$Links" "near" "[I", Cond.static yX6_contains, Cond.initialized RX6, Cond.code yX6_contains cX6_contains 2 (some .boolean), Cond.methodLink RX2 88 yX1_link, Cond.instanceMethod yX1_link, Cond.selects RX1 yX1_link yX1_link, Cond.code yX1_link cX1_link 3 none, Cond.methodLink RX2 92 yX0_count, Cond.instanceMethod yX0_count]
def wsX2_leaksBy_r2 : List Cond := [Cond.selects RX0 yX0_count yX0_count, Cond.initialized RX0, Cond.code yX0_count cX0_count 1 (some .int), Cond.fieldLink RX0 26 "Degreewall$Kinship" "count" "I", Cond.methodLink RX2 96 yX0_within, Cond.instanceMethod yX0_within, Cond.selects RX0 yX0_within yX0_within, Cond.code yX0_within cX0_within 2 (some .int), Cond.fieldLink RX0 18 "Degreewall$Kinship" "barred" "[I", Cond.methodLink RX2 75 yX1_reach, Cond.instanceMethod yX1_reach, Cond.selects RX1 yX1_reach yX1_reach, Cond.code yX1_reach cX1_reach 5 (some .int), Cond.methodLink RX1 15 yX1_widened, Cond.instanceMethod yX1_widened, Cond.selects RX1 yX1_widened yX1_widened, Cond.code yX1_widened cX1_widened 4 (some .int), Cond.methodLink RX2 49 yJ6_bitCount_0f7a4, Cond.static yJ6_bitCount_0f7a4, Cond.initialized RJ6, Cond.code yJ6_bitCount_0f7a4 cJ6_bitCount_0f7a4 1 (some .int), Cond.constant RJ6 265 (1431655765), Cond.constant RJ6 266 (858993459), Cond.constant RJ6 267 (252645135)]
def wsX2_leaksBy : List Cond := .code yX2_leaksBy cX2_leaksBy 6 (some .int) :: ((wsX2_leaksBy_r1 ++ wsX2_leaksBy_r2) ++ wsX20 ++ wsX10 ++ wsX00)
def wsX2_countLeaks_r1 : List Cond := [Cond.methodLink RX2 45 yX2_inForce, Cond.instanceMethod yX2_inForce, Cond.selects RX2 yX2_inForce yX2_inForce, Cond.initialized RX2, Cond.code yX2_inForce cX2_inForce 3 (some .int), Cond.fieldLink RX2 28 "Degreewall$Permits" "count" "I", Cond.methodLink RX2 64 yX2_isInForce, Cond.instanceMethod yX2_isInForce, Cond.selects RX2 yX2_isInForce yX2_isInForce, Cond.code yX2_isInForce cX2_isInForce 2 (some .boolean), Cond.fieldLink RX2 32 "Degreewall$Permits" "today" "I", Cond.fieldLink RX2 18 "Degreewall$Permits" "lastDay" "[I", Cond.fieldLink RX2 38 "Degreewall$Permits" "revoked" "I", Cond.static yX6_contains, Cond.initialized RX6, Cond.code yX6_contains cX6_contains 2 (some .boolean), Cond.methodLink RX2 81 yX2_leaksBy, Cond.instanceMethod yX2_leaksBy, Cond.selects RX2 yX2_leaksBy yX2_leaksBy, Cond.code yX2_leaksBy cX2_leaksBy 6 (some .int), Cond.fieldLink RX2 24 "Degreewall$Permits" "chains" "LDegreewall$Links;", Cond.methodLink RX2 71 yX2_layOut, Cond.instanceMethod yX2_layOut, Cond.selects RX2 yX2_layOut yX2_layOut]
def wsX2_countLeaks_r2 : List Cond := [Cond.code yX2_layOut cX2_layOut 3 none, Cond.fieldLink RX2 9 "Degreewall$Permits" "smaller" "[I", Cond.fieldLink RX2 15 "Degreewall$Permits" "greater" "[I", Cond.methodLink RX2 85 yX1_cutAll, Cond.instanceMethod yX1_cutAll, Cond.selects RX1 yX1_cutAll yX1_cutAll, Cond.initialized RX1, Cond.code yX1_cutAll cX1_cutAll 2 none, Cond.fieldLink RX1 9 "Degreewall$Links" "near" "[I", Cond.methodLink RX2 88 yX1_link, Cond.instanceMethod yX1_link, Cond.selects RX1 yX1_link yX1_link, Cond.code yX1_link cX1_link 3 none, Cond.methodLink RX2 92 yX0_count, Cond.instanceMethod yX0_count, Cond.selects RX0 yX0_count yX0_count, Cond.initialized RX0, Cond.code yX0_count cX0_count 1 (some .int), Cond.fieldLink RX0 26 "Degreewall$Kinship" "count" "I", Cond.methodLink RX2 96 yX0_within, Cond.instanceMethod yX0_within, Cond.selects RX0 yX0_within yX0_within, Cond.code yX0_within cX0_within 2 (some .int), Cond.fieldLink RX0 18 "Degreewall$Kinship" "barred" "[I"]
def wsX2_countLeaks_r3 : List Cond := [Cond.methodLink RX2 75 yX1_reach, Cond.instanceMethod yX1_reach, Cond.selects RX1 yX1_reach yX1_reach, Cond.code yX1_reach cX1_reach 5 (some .int), Cond.methodLink RX1 15 yX1_widened, Cond.instanceMethod yX1_widened, Cond.selects RX1 yX1_widened yX1_widened, Cond.code yX1_widened cX1_widened 4 (some .int), Cond.methodLink RX2 49 yJ6_bitCount_0f7a4, Cond.static yJ6_bitCount_0f7a4, Cond.initialized RJ6, Cond.code yJ6_bitCount_0f7a4 cJ6_bitCount_0f7a4 1 (some .int), Cond.constant RJ6 265 (1431655765), Cond.constant RJ6 266 (858993459), Cond.constant RJ6 267 (252645135)]
def wsX2_countLeaks : List Cond := .code yX2_countLeaks cX2_countLeaks 2 (some .int) :: ((wsX2_countLeaks_r1 ++ (wsX2_countLeaks_r2 ++ wsX2_countLeaks_r3)) ++ wsX20 ++ wsX10 ++ wsX00)
def wsX2_findRepair_r1 : List Cond := [Cond.fieldLink RX2 35 "Degreewall$Permits" "repair" "I", Cond.methodLink RX2 45 yX2_inForce, Cond.instanceMethod yX2_inForce, Cond.selects RX2 yX2_inForce yX2_inForce, Cond.initialized RX2, Cond.code yX2_inForce cX2_inForce 3 (some .int), Cond.fieldLink RX2 28 "Degreewall$Permits" "count" "I", Cond.methodLink RX2 64 yX2_isInForce, Cond.instanceMethod yX2_isInForce, Cond.selects RX2 yX2_isInForce yX2_isInForce, Cond.code yX2_isInForce cX2_isInForce 2 (some .boolean), Cond.fieldLink RX2 32 "Degreewall$Permits" "today" "I", Cond.fieldLink RX2 18 "Degreewall$Permits" "lastDay" "[I", Cond.fieldLink RX2 38 "Degreewall$Permits" "revoked" "I", Cond.static yX6_contains, Cond.initialized RX6, Cond.code yX6_contains cX6_contains 2 (some .boolean), Cond.methodLink RX2 49 yJ6_bitCount_0f7a4, Cond.static yJ6_bitCount_0f7a4, Cond.initialized RJ6, Cond.code yJ6_bitCount_0f7a4 cJ6_bitCount_0f7a4 1 (some .int), Cond.constant RJ6 265 (1431655765), Cond.constant RJ6 266 (858993459), Cond.constant RJ6 267 (252645135)]
def wsX2_findRepair_r2 : List Cond := [Cond.methodLink RX2 81 yX2_leaksBy, Cond.instanceMethod yX2_leaksBy, Cond.selects RX2 yX2_leaksBy yX2_leaksBy, Cond.code yX2_leaksBy cX2_leaksBy 6 (some .int), Cond.fieldLink RX2 24 "Degreewall$Permits" "chains" "LDegreewall$Links;", Cond.methodLink RX2 71 yX2_layOut, Cond.instanceMethod yX2_layOut, Cond.selects RX2 yX2_layOut yX2_layOut, Cond.code yX2_layOut cX2_layOut 3 none, Cond.fieldLink RX2 9 "Degreewall$Permits" "smaller" "[I", Cond.fieldLink RX2 15 "Degreewall$Permits" "greater" "[I", Cond.methodLink RX2 85 yX1_cutAll, Cond.instanceMethod yX1_cutAll, Cond.selects RX1 yX1_cutAll yX1_cutAll, Cond.initialized RX1, Cond.code yX1_cutAll cX1_cutAll 2 none, Cond.fieldLink RX1 9 "Degreewall$Links" "near" "[I", Cond.methodLink RX2 88 yX1_link, Cond.instanceMethod yX1_link, Cond.selects RX1 yX1_link yX1_link, Cond.code yX1_link cX1_link 3 none, Cond.methodLink RX2 92 yX0_count, Cond.instanceMethod yX0_count, Cond.selects RX0 yX0_count yX0_count]
def wsX2_findRepair_r3 : List Cond := [Cond.initialized RX0, Cond.code yX0_count cX0_count 1 (some .int), Cond.fieldLink RX0 26 "Degreewall$Kinship" "count" "I", Cond.methodLink RX2 96 yX0_within, Cond.instanceMethod yX0_within, Cond.selects RX0 yX0_within yX0_within, Cond.code yX0_within cX0_within 2 (some .int), Cond.fieldLink RX0 18 "Degreewall$Kinship" "barred" "[I", Cond.methodLink RX2 75 yX1_reach, Cond.instanceMethod yX1_reach, Cond.selects RX1 yX1_reach yX1_reach, Cond.code yX1_reach cX1_reach 5 (some .int), Cond.methodLink RX1 15 yX1_widened, Cond.instanceMethod yX1_widened, Cond.selects RX1 yX1_widened yX1_widened, Cond.code yX1_widened cX1_widened 4 (some .int)]
def wsX2_findRepair : List Cond := .code yX2_findRepair cX2_findRepair 6 none :: ((wsX2_findRepair_r1 ++ (wsX2_findRepair_r2 ++ wsX2_findRepair_r3)) ++ wsX20 ++ wsX10 ++ wsX00)
def wsX2_areSound_r1 : List Cond := [Cond.fieldLink RX2 35 "Degreewall$Permits" "repair" "I", Cond.methodLink RX2 45 yX2_inForce, Cond.instanceMethod yX2_inForce, Cond.selects RX2 yX2_inForce yX2_inForce, Cond.initialized RX2, Cond.code yX2_inForce cX2_inForce 3 (some .int), Cond.fieldLink RX2 28 "Degreewall$Permits" "count" "I", Cond.methodLink RX2 64 yX2_isInForce, Cond.instanceMethod yX2_isInForce, Cond.selects RX2 yX2_isInForce yX2_isInForce, Cond.code yX2_isInForce cX2_isInForce 2 (some .boolean), Cond.fieldLink RX2 32 "Degreewall$Permits" "today" "I", Cond.fieldLink RX2 18 "Degreewall$Permits" "lastDay" "[I", Cond.fieldLink RX2 38 "Degreewall$Permits" "revoked" "I", Cond.static yX6_contains, Cond.initialized RX6, Cond.code yX6_contains cX6_contains 2 (some .boolean), Cond.methodLink RX2 81 yX2_leaksBy, Cond.instanceMethod yX2_leaksBy, Cond.selects RX2 yX2_leaksBy yX2_leaksBy, Cond.code yX2_leaksBy cX2_leaksBy 6 (some .int), Cond.fieldLink RX2 24 "Degreewall$Permits" "chains" "LDegreewall$Links;", Cond.methodLink RX2 71 yX2_layOut, Cond.instanceMethod yX2_layOut]
def wsX2_areSound_r2 : List Cond := [Cond.selects RX2 yX2_layOut yX2_layOut, Cond.code yX2_layOut cX2_layOut 3 none, Cond.fieldLink RX2 9 "Degreewall$Permits" "smaller" "[I", Cond.fieldLink RX2 15 "Degreewall$Permits" "greater" "[I", Cond.methodLink RX2 85 yX1_cutAll, Cond.instanceMethod yX1_cutAll, Cond.selects RX1 yX1_cutAll yX1_cutAll, Cond.initialized RX1, Cond.code yX1_cutAll cX1_cutAll 2 none, Cond.fieldLink RX1 9 "Degreewall$Links" "near" "[I", Cond.methodLink RX2 88 yX1_link, Cond.instanceMethod yX1_link, Cond.selects RX1 yX1_link yX1_link, Cond.code yX1_link cX1_link 3 none, Cond.methodLink RX2 92 yX0_count, Cond.instanceMethod yX0_count, Cond.selects RX0 yX0_count yX0_count, Cond.initialized RX0, Cond.code yX0_count cX0_count 1 (some .int), Cond.fieldLink RX0 26 "Degreewall$Kinship" "count" "I", Cond.methodLink RX2 96 yX0_within, Cond.instanceMethod yX0_within, Cond.selects RX0 yX0_within yX0_within, Cond.code yX0_within cX0_within 2 (some .int)]
def wsX2_areSound_r3 : List Cond := [Cond.fieldLink RX0 18 "Degreewall$Kinship" "barred" "[I", Cond.methodLink RX2 75 yX1_reach, Cond.instanceMethod yX1_reach, Cond.selects RX1 yX1_reach yX1_reach, Cond.code yX1_reach cX1_reach 5 (some .int), Cond.methodLink RX1 15 yX1_widened, Cond.instanceMethod yX1_widened, Cond.selects RX1 yX1_widened yX1_widened, Cond.code yX1_widened cX1_widened 4 (some .int), Cond.methodLink RX2 49 yJ6_bitCount_0f7a4, Cond.static yJ6_bitCount_0f7a4, Cond.initialized RJ6, Cond.code yJ6_bitCount_0f7a4 cJ6_bitCount_0f7a4 1 (some .int), Cond.constant RJ6 265 (1431655765), Cond.constant RJ6 266 (858993459), Cond.constant RJ6 267 (252645135)]
def wsX2_areSound : List Cond := .code yX2_areSound cX2_areSound 2 (some .boolean) :: ((wsX2_areSound_r1 ++ (wsX2_areSound_r2 ++ wsX2_areSound_r3)) ++ wsX20 ++ wsX10 ++ wsX00)
def wsX3_init : List Cond := .code yX3_init cX3_init 1 none :: ([.methodLink RX3 3 objectInit, .instanceMethod objectInit, .code objectInit ⟨#[0xb1]⟩ 1 none, .classLink RX3 9 "[[I", .arrayClass .int, .fieldLink RX3 11 "Degreewall$Span" "rows" "[[I", .fieldLink RX3 16 "Degreewall$Span" "rest" "[I"] ++ wsX30)
def wsX3_forgetAll : List Cond := .code yX3_forgetAll cX3_forgetAll 1 none :: ([.fieldLink RX3 20 "Degreewall$Span" "used" "I"] ++ wsX30)
def wsX3_clearAt : List Cond := .code yX3_clearAt cX3_clearAt 7 none :: ([.fieldLink RX3 11 "Degreewall$Span" "rows" "[[I"] ++ wsX30)
def wsX3_firstOfRest : List Cond := .code yX3_firstOfRest cX3_firstOfRest 3 (some .int) :: ([.fieldLink RX3 16 "Degreewall$Span" "rest" "[I", .fieldLink RX3 20 "Degreewall$Span" "used" "I", .static yX6_contains, .initialized RX6, .code yX6_contains cX6_contains 2 (some .boolean), .methodLink RX3 32 yX3_clearAt, .instanceMethod yX3_clearAt, .selects RX3 yX3_clearAt yX3_clearAt, .initialized RX3, .code yX3_clearAt cX3_clearAt 7 none, .fieldLink RX3 11 "Degreewall$Span" "rows" "[[I"] ++ wsX30)
def wsX3_add : List Cond := .code yX3_add cX3_add 4 none :: ([.fieldLink RX3 11 "Degreewall$Span" "rows" "[[I", .fieldLink RX3 16 "Degreewall$Span" "rest" "[I", .fieldLink RX3 20 "Degreewall$Span" "used" "I", .methodLink RX3 24 yX3_firstOfRest, .instanceMethod yX3_firstOfRest, .selects RX3 yX3_firstOfRest yX3_firstOfRest, .initialized RX3, .code yX3_firstOfRest cX3_firstOfRest 3 (some .int), .static yX6_contains, .initialized RX6, .code yX6_contains cX6_contains 2 (some .boolean), .methodLink RX3 32 yX3_clearAt, .instanceMethod yX3_clearAt, .selects RX3 yX3_clearAt yX3_clearAt, .code yX3_clearAt cX3_clearAt 7 none] ++ wsX30)
def wsX3_holds : List Cond := .code yX3_holds cX3_holds 2 (some .boolean) :: ([.methodLink RX3 24 yX3_firstOfRest, .instanceMethod yX3_firstOfRest, .selects RX3 yX3_firstOfRest yX3_firstOfRest, .initialized RX3, .code yX3_firstOfRest cX3_firstOfRest 3 (some .int), .fieldLink RX3 16 "Degreewall$Span" "rest" "[I", .fieldLink RX3 20 "Degreewall$Span" "used" "I", .static yX6_contains, .initialized RX6, .code yX6_contains cX6_contains 2 (some .boolean), .methodLink RX3 32 yX3_clearAt, .instanceMethod yX3_clearAt, .selects RX3 yX3_clearAt yX3_clearAt, .code yX3_clearAt cX3_clearAt 7 none, .fieldLink RX3 11 "Degreewall$Span" "rows" "[[I"] ++ wsX30)
def wsX3_isAlone : List Cond := .code yX3_isAlone cX3_isAlone 3 (some .boolean) :: ([])
def wsX3_alone : List Cond := .code yX3_alone cX3_alone 3 (some .int) :: ([.fieldLink RX3 20 "Degreewall$Span" "used" "I", .fieldLink RX3 11 "Degreewall$Span" "rows" "[[I", .static yX6_contains, .initialized RX6, .code yX6_contains cX6_contains 2 (some .boolean), .methodLink RX3 41 yX3_isAlone, .static yX3_isAlone, .initialized RX3, .code yX3_isAlone cX3_isAlone 3 (some .boolean)] ++ wsX30)
def wsX4_init_r1 : List Cond := [Cond.methodLink RX4 3 objectInit, Cond.instanceMethod objectInit, Cond.code objectInit ⟨#[0xb1]⟩ 1 none, Cond.arrayClass .int, Cond.fieldLink RX4 9 "Degreewall$Sums" "values" "[I", Cond.classLink RX4 15 RX1, Cond.instantiable RX1 1, Cond.initialized RX1, Cond.fieldLink RX4 18 "Degreewall$Sums" "talks" "LDegreewall$Links;", Cond.fieldLink RX4 22 "Degreewall$Sums" "hearers" "[I", Cond.fieldLink RX4 25 "Degreewall$Sums" "told" "[I", Cond.fieldLink RX4 28 "Degreewall$Sums" "refused" "[I", Cond.classLink RX4 31 RX3, Cond.instantiable RX3 3, Cond.initialized RX3, Cond.fieldLink RX4 34 "Degreewall$Sums" "span" "LDegreewall$Span;", Cond.fieldLink RX4 38 "Degreewall$Sums" "least" "I", Cond.instanceMethod yX1_init, Cond.code yX1_init cX1_init 1 none, Cond.methodLink RX1 3 objectInit, Cond.fieldLink RX1 9 "Degreewall$Links" "near" "[I", Cond.instanceMethod yX3_init, Cond.code yX3_init cX3_init 1 none, Cond.methodLink RX3 3 objectInit]
def wsX4_init_r2 : List Cond := [Cond.classLink RX3 9 "[[I", Cond.fieldLink RX3 11 "Degreewall$Span" "rows" "[[I", Cond.fieldLink RX3 16 "Degreewall$Span" "rest" "[I"]
def wsX4_init : List Cond := .code yX4_init cX4_init 1 none :: ((wsX4_init_r1 ++ wsX4_init_r2) ++ wsX40 ++ wsX10 ++ wsX30)
def wsX4_people : List Cond := .code yX4_people cX4_people 1 (some .int) :: ([.fieldLink RX4 42 "Degreewall$Sums" "people" "I"] ++ wsX40)
def wsX4_everybody : List Cond := .code yX4_everybody cX4_everybody 1 (some .int) :: ([.fieldLink RX4 42 "Degreewall$Sums" "people" "I"] ++ wsX40)
def wsX4_askers : List Cond := .code yX4_askers cX4_askers 1 (some .int) :: ([.fieldLink RX4 45 "Degreewall$Sums" "askers" "I"] ++ wsX40)
def wsX4_leastNow : List Cond := .code yX4_leastNow cX4_leastNow 1 (some .int) :: ([.fieldLink RX4 38 "Degreewall$Sums" "least" "I"] ++ wsX40)
def wsX4_knowsAsker : List Cond := .code yX4_knowsAsker cX4_knowsAsker 2 (some .boolean) :: ([.fieldLink RX4 45 "Degreewall$Sums" "askers" "I"] ++ wsX40)
def wsX4_knowsPeople : List Cond := .code yX4_knowsPeople cX4_knowsPeople 2 (some .boolean) :: ([.methodLink RX4 48 yX4_everybody, .instanceMethod yX4_everybody, .selects RX4 yX4_everybody yX4_everybody, .initialized RX4, .code yX4_everybody cX4_everybody 1 (some .int), .fieldLink RX4 42 "Degreewall$Sums" "people" "I"] ++ wsX40)
def wsX4_addPerson : List Cond := .code yX4_addPerson cX4_addPerson 2 (some .int) :: ([.fieldLink RX4 9 "Degreewall$Sums" "values" "[I", .fieldLink RX4 42 "Degreewall$Sums" "people" "I"] ++ wsX40)
def wsX4_addAsker : List Cond := .code yX4_addAsker cX4_addAsker 1 (some .int) :: ([.fieldLink RX4 45 "Degreewall$Sums" "askers" "I"] ++ wsX40)
def wsX4_circle : List Cond := .code yX4_circle cX4_circle 2 (some .int) :: ([.fieldLink RX4 18 "Degreewall$Sums" "talks" "LDegreewall$Links;", .methodLink RX4 72 yX1_reach, .instanceMethod yX1_reach, .selects RX1 yX1_reach yX1_reach, .initialized RX1, .code yX1_reach cX1_reach 5 (some .int), .methodLink RX1 15 yX1_widened, .instanceMethod yX1_widened, .selects RX1 yX1_widened yX1_widened, .code yX1_widened cX1_widened 4 (some .int), .fieldLink RX1 9 "Degreewall$Links" "near" "[I", .static yX6_contains, .initialized RX6, .code yX6_contains cX6_contains 2 (some .boolean)] ++ wsX40 ++ wsX10)
def wsX4_fillSpan_r1 : List Cond := [Cond.fieldLink RX4 34 "Degreewall$Sums" "span" "LDegreewall$Span;", Cond.fieldLink RX4 22 "Degreewall$Sums" "hearers" "[I", Cond.methodLink RX4 106 yX3_forgetAll, Cond.instanceMethod yX3_forgetAll, Cond.selects RX3 yX3_forgetAll yX3_forgetAll, Cond.initialized RX3, Cond.code yX3_forgetAll cX3_forgetAll 1 none, Cond.fieldLink RX3 20 "Degreewall$Span" "used" "I", Cond.methodLink RX4 93 yX3_add, Cond.instanceMethod yX3_add, Cond.selects RX3 yX3_add yX3_add, Cond.code yX3_add cX3_add 4 none, Cond.fieldLink RX3 11 "Degreewall$Span" "rows" "[[I", Cond.fieldLink RX3 16 "Degreewall$Span" "rest" "[I", Cond.methodLink RX3 24 yX3_firstOfRest, Cond.instanceMethod yX3_firstOfRest, Cond.selects RX3 yX3_firstOfRest yX3_firstOfRest, Cond.code yX3_firstOfRest cX3_firstOfRest 3 (some .int), Cond.static yX6_contains, Cond.initialized RX6, Cond.code yX6_contains cX6_contains 2 (some .boolean), Cond.methodLink RX3 32 yX3_clearAt, Cond.instanceMethod yX3_clearAt, Cond.selects RX3 yX3_clearAt yX3_clearAt]
def wsX4_fillSpan_r2 : List Cond := [Cond.code yX3_clearAt cX3_clearAt 7 none]
def wsX4_fillSpan : List Cond := .code yX4_fillSpan cX4_fillSpan 3 none :: ((wsX4_fillSpan_r1 ++ wsX4_fillSpan_r2) ++ wsX40 ++ wsX30)
def wsX4_givenAwayWith_r1 : List Cond := [Cond.fieldLink RX4 34 "Degreewall$Sums" "span" "LDegreewall$Span;", Cond.methodLink RX4 75 yX4_circle, Cond.instanceMethod yX4_circle, Cond.selects RX4 yX4_circle yX4_circle, Cond.initialized RX4, Cond.code yX4_circle cX4_circle 2 (some .int), Cond.fieldLink RX4 18 "Degreewall$Sums" "talks" "LDegreewall$Links;", Cond.methodLink RX4 72 yX1_reach, Cond.instanceMethod yX1_reach, Cond.selects RX1 yX1_reach yX1_reach, Cond.initialized RX1, Cond.code yX1_reach cX1_reach 5 (some .int), Cond.methodLink RX1 15 yX1_widened, Cond.instanceMethod yX1_widened, Cond.selects RX1 yX1_widened yX1_widened, Cond.code yX1_widened cX1_widened 4 (some .int), Cond.fieldLink RX1 9 "Degreewall$Links" "near" "[I", Cond.static yX6_contains, Cond.initialized RX6, Cond.code yX6_contains cX6_contains 2 (some .boolean), Cond.methodLink RX4 78 yX4_fillSpan, Cond.instanceMethod yX4_fillSpan, Cond.selects RX4 yX4_fillSpan yX4_fillSpan, Cond.code yX4_fillSpan cX4_fillSpan 3 none]
def wsX4_givenAwayWith_r2 : List Cond := [Cond.fieldLink RX4 22 "Degreewall$Sums" "hearers" "[I", Cond.methodLink RX4 106 yX3_forgetAll, Cond.instanceMethod yX3_forgetAll, Cond.selects RX3 yX3_forgetAll yX3_forgetAll, Cond.initialized RX3, Cond.code yX3_forgetAll cX3_forgetAll 1 none, Cond.fieldLink RX3 20 "Degreewall$Span" "used" "I", Cond.methodLink RX4 93 yX3_add, Cond.instanceMethod yX3_add, Cond.selects RX3 yX3_add yX3_add, Cond.code yX3_add cX3_add 4 none, Cond.fieldLink RX3 11 "Degreewall$Span" "rows" "[[I", Cond.fieldLink RX3 16 "Degreewall$Span" "rest" "[I", Cond.methodLink RX3 24 yX3_firstOfRest, Cond.instanceMethod yX3_firstOfRest, Cond.selects RX3 yX3_firstOfRest yX3_firstOfRest, Cond.code yX3_firstOfRest cX3_firstOfRest 3 (some .int), Cond.methodLink RX3 32 yX3_clearAt, Cond.instanceMethod yX3_clearAt, Cond.selects RX3 yX3_clearAt yX3_clearAt, Cond.code yX3_clearAt cX3_clearAt 7 none, Cond.methodLink RX4 96 yX3_alone, Cond.instanceMethod yX3_alone, Cond.selects RX3 yX3_alone yX3_alone]
def wsX4_givenAwayWith_r3 : List Cond := [Cond.code yX3_alone cX3_alone 3 (some .int), Cond.methodLink RX3 41 yX3_isAlone, Cond.static yX3_isAlone, Cond.code yX3_isAlone cX3_isAlone 3 (some .boolean)]
def wsX4_givenAwayWith : List Cond := .code yX4_givenAwayWith cX4_givenAwayWith 3 (some .int) :: ((wsX4_givenAwayWith_r1 ++ (wsX4_givenAwayWith_r2 ++ wsX4_givenAwayWith_r3)) ++ wsX40 ++ wsX10 ++ wsX30)
def wsX4_sumOf : List Cond := .code yX4_sumOf cX4_sumOf 4 (some .int) :: ([.fieldLink RX4 42 "Degreewall$Sums" "people" "I", .fieldLink RX4 9 "Degreewall$Sums" "values" "[I", .static yX6_contains, .initialized RX6, .code yX6_contains cX6_contains 2 (some .boolean)] ++ wsX40)
def wsX4_tell_r1 : List Cond := [Cond.fieldLink RX4 38 "Degreewall$Sums" "least" "I", Cond.fieldLink RX4 28 "Degreewall$Sums" "refused" "[I", Cond.fieldLink RX4 22 "Degreewall$Sums" "hearers" "[I", Cond.fieldLink RX4 25 "Degreewall$Sums" "told" "[I", Cond.methodLink RX4 52 yJ6_bitCount_0f7a4, Cond.static yJ6_bitCount_0f7a4, Cond.initialized RJ6, Cond.code yJ6_bitCount_0f7a4 cJ6_bitCount_0f7a4 1 (some .int), Cond.constant RJ6 265 (1431655765), Cond.constant RJ6 266 (858993459), Cond.constant RJ6 267 (252645135), Cond.methodLink RX4 58 yX4_givenAwayWith, Cond.instanceMethod yX4_givenAwayWith, Cond.selects RX4 yX4_givenAwayWith yX4_givenAwayWith, Cond.initialized RX4, Cond.code yX4_givenAwayWith cX4_givenAwayWith 3 (some .int), Cond.fieldLink RX4 34 "Degreewall$Sums" "span" "LDegreewall$Span;", Cond.methodLink RX4 75 yX4_circle, Cond.instanceMethod yX4_circle, Cond.selects RX4 yX4_circle yX4_circle, Cond.code yX4_circle cX4_circle 2 (some .int), Cond.fieldLink RX4 18 "Degreewall$Sums" "talks" "LDegreewall$Links;", Cond.methodLink RX4 72 yX1_reach, Cond.instanceMethod yX1_reach]
def wsX4_tell_r2 : List Cond := [Cond.selects RX1 yX1_reach yX1_reach, Cond.initialized RX1, Cond.code yX1_reach cX1_reach 5 (some .int), Cond.methodLink RX1 15 yX1_widened, Cond.instanceMethod yX1_widened, Cond.selects RX1 yX1_widened yX1_widened, Cond.code yX1_widened cX1_widened 4 (some .int), Cond.fieldLink RX1 9 "Degreewall$Links" "near" "[I", Cond.static yX6_contains, Cond.initialized RX6, Cond.code yX6_contains cX6_contains 2 (some .boolean), Cond.methodLink RX4 78 yX4_fillSpan, Cond.instanceMethod yX4_fillSpan, Cond.selects RX4 yX4_fillSpan yX4_fillSpan, Cond.code yX4_fillSpan cX4_fillSpan 3 none, Cond.methodLink RX4 106 yX3_forgetAll, Cond.instanceMethod yX3_forgetAll, Cond.selects RX3 yX3_forgetAll yX3_forgetAll, Cond.initialized RX3, Cond.code yX3_forgetAll cX3_forgetAll 1 none, Cond.fieldLink RX3 20 "Degreewall$Span" "used" "I", Cond.methodLink RX4 93 yX3_add, Cond.instanceMethod yX3_add, Cond.selects RX3 yX3_add yX3_add]
def wsX4_tell_r3 : List Cond := [Cond.code yX3_add cX3_add 4 none, Cond.fieldLink RX3 11 "Degreewall$Span" "rows" "[[I", Cond.fieldLink RX3 16 "Degreewall$Span" "rest" "[I", Cond.methodLink RX3 24 yX3_firstOfRest, Cond.instanceMethod yX3_firstOfRest, Cond.selects RX3 yX3_firstOfRest yX3_firstOfRest, Cond.code yX3_firstOfRest cX3_firstOfRest 3 (some .int), Cond.methodLink RX3 32 yX3_clearAt, Cond.instanceMethod yX3_clearAt, Cond.selects RX3 yX3_clearAt yX3_clearAt, Cond.code yX3_clearAt cX3_clearAt 7 none, Cond.methodLink RX4 96 yX3_alone, Cond.instanceMethod yX3_alone, Cond.selects RX3 yX3_alone yX3_alone, Cond.code yX3_alone cX3_alone 3 (some .int), Cond.methodLink RX3 41 yX3_isAlone, Cond.static yX3_isAlone, Cond.code yX3_isAlone cX3_isAlone 3 (some .boolean), Cond.methodLink RX4 62 yX4_sumOf, Cond.instanceMethod yX4_sumOf, Cond.selects RX4 yX4_sumOf yX4_sumOf, Cond.code yX4_sumOf cX4_sumOf 4 (some .int), Cond.fieldLink RX4 42 "Degreewall$Sums" "people" "I", Cond.fieldLink RX4 9 "Degreewall$Sums" "values" "[I"]
def wsX4_tell : List Cond := .code yX4_tell cX4_tell 3 (some .int) :: ((wsX4_tell_r1 ++ (wsX4_tell_r2 ++ wsX4_tell_r3)) ++ wsX40 ++ wsX10 ++ wsX30)
def wsX4_givenAwayByTalk_r1 : List Cond := [Cond.fieldLink RX4 34 "Degreewall$Sums" "span" "LDegreewall$Span;", Cond.methodLink RX4 75 yX4_circle, Cond.instanceMethod yX4_circle, Cond.selects RX4 yX4_circle yX4_circle, Cond.initialized RX4, Cond.code yX4_circle cX4_circle 2 (some .int), Cond.fieldLink RX4 18 "Degreewall$Sums" "talks" "LDegreewall$Links;", Cond.methodLink RX4 72 yX1_reach, Cond.instanceMethod yX1_reach, Cond.selects RX1 yX1_reach yX1_reach, Cond.initialized RX1, Cond.code yX1_reach cX1_reach 5 (some .int), Cond.methodLink RX1 15 yX1_widened, Cond.instanceMethod yX1_widened, Cond.selects RX1 yX1_widened yX1_widened, Cond.code yX1_widened cX1_widened 4 (some .int), Cond.fieldLink RX1 9 "Degreewall$Links" "near" "[I", Cond.static yX6_contains, Cond.initialized RX6, Cond.code yX6_contains cX6_contains 2 (some .boolean), Cond.methodLink RX4 78 yX4_fillSpan, Cond.instanceMethod yX4_fillSpan, Cond.selects RX4 yX4_fillSpan yX4_fillSpan, Cond.code yX4_fillSpan cX4_fillSpan 3 none]
def wsX4_givenAwayByTalk_r2 : List Cond := [Cond.fieldLink RX4 22 "Degreewall$Sums" "hearers" "[I", Cond.methodLink RX4 106 yX3_forgetAll, Cond.instanceMethod yX3_forgetAll, Cond.selects RX3 yX3_forgetAll yX3_forgetAll, Cond.initialized RX3, Cond.code yX3_forgetAll cX3_forgetAll 1 none, Cond.fieldLink RX3 20 "Degreewall$Span" "used" "I", Cond.methodLink RX4 93 yX3_add, Cond.instanceMethod yX3_add, Cond.selects RX3 yX3_add yX3_add, Cond.code yX3_add cX3_add 4 none, Cond.fieldLink RX3 11 "Degreewall$Span" "rows" "[[I", Cond.fieldLink RX3 16 "Degreewall$Span" "rest" "[I", Cond.methodLink RX3 24 yX3_firstOfRest, Cond.instanceMethod yX3_firstOfRest, Cond.selects RX3 yX3_firstOfRest yX3_firstOfRest, Cond.code yX3_firstOfRest cX3_firstOfRest 3 (some .int), Cond.methodLink RX3 32 yX3_clearAt, Cond.instanceMethod yX3_clearAt, Cond.selects RX3 yX3_clearAt yX3_clearAt, Cond.code yX3_clearAt cX3_clearAt 7 none, Cond.methodLink RX4 96 yX3_alone, Cond.instanceMethod yX3_alone, Cond.selects RX3 yX3_alone yX3_alone]
def wsX4_givenAwayByTalk_r3 : List Cond := [Cond.code yX3_alone cX3_alone 3 (some .int), Cond.methodLink RX3 41 yX3_isAlone, Cond.static yX3_isAlone, Cond.code yX3_isAlone cX3_isAlone 3 (some .boolean)]
def wsX4_givenAwayByTalk : List Cond := .code yX4_givenAwayByTalk cX4_givenAwayByTalk 3 (some .int) :: ((wsX4_givenAwayByTalk_r1 ++ (wsX4_givenAwayByTalk_r2 ++ wsX4_givenAwayByTalk_r3)) ++ wsX40 ++ wsX10 ++ wsX30)
def wsX4_letTalk_r1 : List Cond := [Cond.fieldLink RX4 28 "Degreewall$Sums" "refused" "[I", Cond.fieldLink RX4 18 "Degreewall$Sums" "talks" "LDegreewall$Links;", Cond.methodLink RX4 65 yX4_givenAwayByTalk, Cond.instanceMethod yX4_givenAwayByTalk, Cond.selects RX4 yX4_givenAwayByTalk yX4_givenAwayByTalk, Cond.initialized RX4, Cond.code yX4_givenAwayByTalk cX4_givenAwayByTalk 3 (some .int), Cond.fieldLink RX4 34 "Degreewall$Sums" "span" "LDegreewall$Span;", Cond.methodLink RX4 75 yX4_circle, Cond.instanceMethod yX4_circle, Cond.selects RX4 yX4_circle yX4_circle, Cond.code yX4_circle cX4_circle 2 (some .int), Cond.methodLink RX4 72 yX1_reach, Cond.instanceMethod yX1_reach, Cond.selects RX1 yX1_reach yX1_reach, Cond.initialized RX1, Cond.code yX1_reach cX1_reach 5 (some .int), Cond.methodLink RX1 15 yX1_widened, Cond.instanceMethod yX1_widened, Cond.selects RX1 yX1_widened yX1_widened, Cond.code yX1_widened cX1_widened 4 (some .int), Cond.fieldLink RX1 9 "Degreewall$Links" "near" "[I", Cond.static yX6_contains, Cond.initialized RX6]
def wsX4_letTalk_r2 : List Cond := [Cond.code yX6_contains cX6_contains 2 (some .boolean), Cond.methodLink RX4 78 yX4_fillSpan, Cond.instanceMethod yX4_fillSpan, Cond.selects RX4 yX4_fillSpan yX4_fillSpan, Cond.code yX4_fillSpan cX4_fillSpan 3 none, Cond.fieldLink RX4 22 "Degreewall$Sums" "hearers" "[I", Cond.methodLink RX4 106 yX3_forgetAll, Cond.instanceMethod yX3_forgetAll, Cond.selects RX3 yX3_forgetAll yX3_forgetAll, Cond.initialized RX3, Cond.code yX3_forgetAll cX3_forgetAll 1 none, Cond.fieldLink RX3 20 "Degreewall$Span" "used" "I", Cond.methodLink RX4 93 yX3_add, Cond.instanceMethod yX3_add, Cond.selects RX3 yX3_add yX3_add, Cond.code yX3_add cX3_add 4 none, Cond.fieldLink RX3 11 "Degreewall$Span" "rows" "[[I", Cond.fieldLink RX3 16 "Degreewall$Span" "rest" "[I", Cond.methodLink RX3 24 yX3_firstOfRest, Cond.instanceMethod yX3_firstOfRest, Cond.selects RX3 yX3_firstOfRest yX3_firstOfRest, Cond.code yX3_firstOfRest cX3_firstOfRest 3 (some .int), Cond.methodLink RX3 32 yX3_clearAt, Cond.instanceMethod yX3_clearAt]
def wsX4_letTalk_r3 : List Cond := [Cond.selects RX3 yX3_clearAt yX3_clearAt, Cond.code yX3_clearAt cX3_clearAt 7 none, Cond.methodLink RX4 96 yX3_alone, Cond.instanceMethod yX3_alone, Cond.selects RX3 yX3_alone yX3_alone, Cond.code yX3_alone cX3_alone 3 (some .int), Cond.methodLink RX3 41 yX3_isAlone, Cond.static yX3_isAlone, Cond.code yX3_isAlone cX3_isAlone 3 (some .boolean), Cond.methodLink RX4 68 yX1_link, Cond.instanceMethod yX1_link, Cond.selects RX1 yX1_link yX1_link, Cond.code yX1_link cX1_link 3 none]
def wsX4_letTalk : List Cond := .code yX4_letTalk cX4_letTalk 3 (some .boolean) :: ((wsX4_letTalk_r1 ++ (wsX4_letTalk_r2 ++ wsX4_letTalk_r3)) ++ wsX40 ++ wsX10 ++ wsX30)
def wsX4_total : List Cond := .code yX4_total cX4_total 3 (some .int) :: ([])
def wsX4_toldEver : List Cond := .code yX4_toldEver cX4_toldEver 1 (some .int) :: ([.fieldLink RX4 25 "Degreewall$Sums" "told" "[I", .methodLink RX4 85 yX4_total, .static yX4_total, .initialized RX4, .code yX4_total cX4_total 3 (some .int)] ++ wsX40)
def wsX4_refusedEver : List Cond := .code yX4_refusedEver cX4_refusedEver 1 (some .int) :: ([.fieldLink RX4 28 "Degreewall$Sums" "refused" "[I", .methodLink RX4 85 yX4_total, .static yX4_total, .initialized RX4, .code yX4_total cX4_total 3 (some .int)] ++ wsX40)
def wsX4_spanHoldsAllTold : List Cond := .code yX4_spanHoldsAllTold cX4_spanHoldsAllTold 3 (some .boolean) :: ([.fieldLink RX4 22 "Degreewall$Sums" "hearers" "[I", .fieldLink RX4 34 "Degreewall$Sums" "span" "LDegreewall$Span;", .static yX6_contains, .initialized RX6, .code yX6_contains cX6_contains 2 (some .boolean), .methodLink RX4 89 yX3_holds, .instanceMethod yX3_holds, .selects RX3 yX3_holds yX3_holds, .initialized RX3, .code yX3_holds cX3_holds 2 (some .boolean), .methodLink RX3 24 yX3_firstOfRest, .instanceMethod yX3_firstOfRest, .selects RX3 yX3_firstOfRest yX3_firstOfRest, .code yX3_firstOfRest cX3_firstOfRest 3 (some .int), .fieldLink RX3 16 "Degreewall$Span" "rest" "[I", .fieldLink RX3 20 "Degreewall$Span" "used" "I", .methodLink RX3 32 yX3_clearAt, .instanceMethod yX3_clearAt, .selects RX3 yX3_clearAt yX3_clearAt, .code yX3_clearAt cX3_clearAt 7 none, .fieldLink RX3 11 "Degreewall$Span" "rows" "[[I"] ++ wsX40 ++ wsX30)
def wsX4_areSound_r1 : List Cond := [Cond.fieldLink RX4 45 "Degreewall$Sums" "askers" "I", Cond.fieldLink RX4 34 "Degreewall$Sums" "span" "LDegreewall$Span;", Cond.methodLink RX4 75 yX4_circle, Cond.instanceMethod yX4_circle, Cond.selects RX4 yX4_circle yX4_circle, Cond.initialized RX4, Cond.code yX4_circle cX4_circle 2 (some .int), Cond.fieldLink RX4 18 "Degreewall$Sums" "talks" "LDegreewall$Links;", Cond.methodLink RX4 72 yX1_reach, Cond.instanceMethod yX1_reach, Cond.selects RX1 yX1_reach yX1_reach, Cond.initialized RX1, Cond.code yX1_reach cX1_reach 5 (some .int), Cond.methodLink RX1 15 yX1_widened, Cond.instanceMethod yX1_widened, Cond.selects RX1 yX1_widened yX1_widened, Cond.code yX1_widened cX1_widened 4 (some .int), Cond.fieldLink RX1 9 "Degreewall$Links" "near" "[I", Cond.static yX6_contains, Cond.initialized RX6, Cond.code yX6_contains cX6_contains 2 (some .boolean), Cond.methodLink RX4 78 yX4_fillSpan, Cond.instanceMethod yX4_fillSpan, Cond.selects RX4 yX4_fillSpan yX4_fillSpan]
def wsX4_areSound_r2 : List Cond := [Cond.code yX4_fillSpan cX4_fillSpan 3 none, Cond.fieldLink RX4 22 "Degreewall$Sums" "hearers" "[I", Cond.methodLink RX4 106 yX3_forgetAll, Cond.instanceMethod yX3_forgetAll, Cond.selects RX3 yX3_forgetAll yX3_forgetAll, Cond.initialized RX3, Cond.code yX3_forgetAll cX3_forgetAll 1 none, Cond.fieldLink RX3 20 "Degreewall$Span" "used" "I", Cond.methodLink RX4 93 yX3_add, Cond.instanceMethod yX3_add, Cond.selects RX3 yX3_add yX3_add, Cond.code yX3_add cX3_add 4 none, Cond.fieldLink RX3 11 "Degreewall$Span" "rows" "[[I", Cond.fieldLink RX3 16 "Degreewall$Span" "rest" "[I", Cond.methodLink RX3 24 yX3_firstOfRest, Cond.instanceMethod yX3_firstOfRest, Cond.selects RX3 yX3_firstOfRest yX3_firstOfRest, Cond.code yX3_firstOfRest cX3_firstOfRest 3 (some .int), Cond.methodLink RX3 32 yX3_clearAt, Cond.instanceMethod yX3_clearAt, Cond.selects RX3 yX3_clearAt yX3_clearAt, Cond.code yX3_clearAt cX3_clearAt 7 none, Cond.methodLink RX4 96 yX3_alone, Cond.instanceMethod yX3_alone]
def wsX4_areSound_r3 : List Cond := [Cond.selects RX3 yX3_alone yX3_alone, Cond.code yX3_alone cX3_alone 3 (some .int), Cond.methodLink RX3 41 yX3_isAlone, Cond.static yX3_isAlone, Cond.code yX3_isAlone cX3_isAlone 3 (some .boolean), Cond.methodLink RX4 99 yX4_spanHoldsAllTold, Cond.instanceMethod yX4_spanHoldsAllTold, Cond.selects RX4 yX4_spanHoldsAllTold yX4_spanHoldsAllTold, Cond.code yX4_spanHoldsAllTold cX4_spanHoldsAllTold 3 (some .boolean), Cond.methodLink RX4 89 yX3_holds, Cond.instanceMethod yX3_holds, Cond.selects RX3 yX3_holds yX3_holds, Cond.code yX3_holds cX3_holds 2 (some .boolean)]
def wsX4_areSound : List Cond := .code yX4_areSound cX4_areSound 2 (some .boolean) :: ((wsX4_areSound_r1 ++ (wsX4_areSound_r2 ++ wsX4_areSound_r3)) ++ wsX40 ++ wsX10 ++ wsX30)
def wsX5_init : List Cond := .code yX5_init cX5_init 1 none :: ([.methodLink RX5 3 objectInit, .instanceMethod objectInit, .code objectInit ⟨#[0xb1]⟩ 1 none, .arrayClass .int, .fieldLink RX5 9 "Degreewall$Tables" "lines" "[I"] ++ wsX50)
def wsX5_count : List Cond := .code yX5_count cX5_count 1 (some .int) :: ([.fieldLink RX5 15 "Degreewall$Tables" "count" "I"] ++ wsX50)
def wsX5_knows : List Cond := .code yX5_knows cX5_knows 2 (some .boolean) :: ([.fieldLink RX5 15 "Degreewall$Tables" "count" "I"] ++ wsX50)
def wsX5_line : List Cond := .code yX5_line cX5_line 2 (some .int) :: ([.fieldLink RX5 9 "Degreewall$Tables" "lines" "[I"] ++ wsX50)
def wsX5_isStruck : List Cond := .code yX5_isStruck cX5_isStruck 2 (some .boolean) :: ([.fieldLink RX5 19 "Degreewall$Tables" "struck" "I", .static yX6_contains, .initialized RX6, .code yX6_contains cX6_contains 2 (some .boolean)] ++ wsX50)
def wsX5_countStruck : List Cond := .code yX5_countStruck cX5_countStruck 1 (some .int) :: ([.fieldLink RX5 19 "Degreewall$Tables" "struck" "I", .methodLink RX5 26 yJ6_bitCount_0f7a4, .static yJ6_bitCount_0f7a4, .initialized RJ6, .code yJ6_bitCount_0f7a4 cJ6_bitCount_0f7a4 1 (some .int), .constant RJ6 265 (1431655765), .constant RJ6 266 (858993459), .constant RJ6 267 (252645135)] ++ wsX50)
def wsX5_add : List Cond := .code yX5_add cX5_add 2 (some .int) :: ([.fieldLink RX5 9 "Degreewall$Tables" "lines" "[I", .fieldLink RX5 15 "Degreewall$Tables" "count" "I"] ++ wsX50)
def wsX5_strike_r1 : List Cond := [Cond.fieldLink RX5 15 "Degreewall$Tables" "count" "I", Cond.fieldLink RX5 9 "Degreewall$Tables" "lines" "[I", Cond.fieldLink RX5 19 "Degreewall$Tables" "struck" "I", Cond.methodLink RX5 32 yX5_countStruck, Cond.instanceMethod yX5_countStruck, Cond.selects RX5 yX5_countStruck yX5_countStruck, Cond.initialized RX5, Cond.code yX5_countStruck cX5_countStruck 1 (some .int), Cond.methodLink RX5 26 yJ6_bitCount_0f7a4, Cond.static yJ6_bitCount_0f7a4, Cond.initialized RJ6, Cond.code yJ6_bitCount_0f7a4 cJ6_bitCount_0f7a4 1 (some .int), Cond.constant RJ6 265 (1431655765), Cond.constant RJ6 266 (858993459), Cond.constant RJ6 267 (252645135), Cond.methodLink RX5 36 yX0_firstPairWithin, Cond.instanceMethod yX0_firstPairWithin, Cond.selects RX0 yX0_firstPairWithin yX0_firstPairWithin, Cond.initialized RX0, Cond.code yX0_firstPairWithin cX0_firstPairWithin 5 (some .int), Cond.fieldLink RX0 26 "Degreewall$Kinship" "count" "I", Cond.fieldLink RX0 18 "Degreewall$Kinship" "barred" "[I", Cond.static yX6_contains, Cond.initialized RX6]
def wsX5_strike_r2 : List Cond := [Cond.code yX6_contains cX6_contains 2 (some .boolean)]
def wsX5_strike : List Cond := .code yX5_strike cX5_strike 4 (some .int) :: ((wsX5_strike_r1 ++ wsX5_strike_r2) ++ wsX50 ++ wsX00)
def wsX5_countWith : List Cond := .code yX5_countWith cX5_countWith 4 (some .int) :: ([.fieldLink RX5 15 "Degreewall$Tables" "count" "I", .fieldLink RX5 19 "Degreewall$Tables" "struck" "I", .fieldLink RX5 9 "Degreewall$Tables" "lines" "[I", .static yX6_contains, .initialized RX6, .code yX6_contains cX6_contains 2 (some .boolean)] ++ wsX50)
def wsX5_areSound : List Cond := .code yX5_areSound cX5_areSound 3 (some .boolean) :: ([.fieldLink RX5 15 "Degreewall$Tables" "count" "I", .fieldLink RX5 19 "Degreewall$Tables" "struck" "I", .fieldLink RX5 9 "Degreewall$Tables" "lines" "[I", .static yX6_contains, .initialized RX6, .code yX6_contains cX6_contains 2 (some .boolean), .methodLink RX5 36 yX0_firstPairWithin, .instanceMethod yX0_firstPairWithin, .selects RX0 yX0_firstPairWithin yX0_firstPairWithin, .initialized RX0, .code yX0_firstPairWithin cX0_firstPairWithin 5 (some .int), .fieldLink RX0 26 "Degreewall$Kinship" "count" "I", .fieldLink RX0 18 "Degreewall$Kinship" "barred" "[I"] ++ wsX50 ++ wsX00)
def wsX6_init_r1 : List Cond := [Cond.methodLink RX6 1 objectInit, Cond.instanceMethod objectInit, Cond.code objectInit ⟨#[0xb1]⟩ 1 none, Cond.classLink RX6 7 RX0, Cond.instantiable RX0 4, Cond.initialized RX0, Cond.fieldLink RX6 10 "Degreewall" "kinship" "LDegreewall$Kinship;", Cond.classLink RX6 16 RX5, Cond.instantiable RX5 3, Cond.initialized RX5, Cond.fieldLink RX6 19 "Degreewall" "tables" "LDegreewall$Tables;", Cond.classLink RX6 23 RX2, Cond.instantiable RX2 8, Cond.initialized RX2, Cond.fieldLink RX6 26 "Degreewall" "permits" "LDegreewall$Permits;", Cond.classLink RX6 30 RX4, Cond.instantiable RX4 9, Cond.initialized RX4, Cond.fieldLink RX6 33 "Degreewall" "sums" "LDegreewall$Sums;", Cond.instanceMethod yX0_init, Cond.code yX0_init cX0_init 1 none, Cond.methodLink RX0 3 objectInit, Cond.classLink RX0 9 RX1, Cond.instantiable RX1 1]
def wsX6_init_r2 : List Cond := [Cond.initialized RX1, Cond.fieldLink RX0 12 "Degreewall$Kinship" "kin" "LDegreewall$Links;", Cond.arrayClass .int, Cond.fieldLink RX0 18 "Degreewall$Kinship" "barred" "[I", Cond.fieldLink RX0 22 "Degreewall$Kinship" "bar" "I", Cond.instanceMethod yX1_init, Cond.code yX1_init cX1_init 1 none, Cond.methodLink RX1 3 objectInit, Cond.fieldLink RX1 9 "Degreewall$Links" "near" "[I", Cond.instanceMethod yX5_init, Cond.code yX5_init cX5_init 1 none, Cond.methodLink RX5 3 objectInit, Cond.fieldLink RX5 9 "Degreewall$Tables" "lines" "[I", Cond.instanceMethod yX2_init, Cond.code yX2_init cX2_init 1 none, Cond.methodLink RX2 3 objectInit, Cond.fieldLink RX2 9 "Degreewall$Permits" "smaller" "[I", Cond.fieldLink RX2 15 "Degreewall$Permits" "greater" "[I", Cond.fieldLink RX2 18 "Degreewall$Permits" "lastDay" "[I", Cond.classLink RX2 21 RX1, Cond.fieldLink RX2 24 "Degreewall$Permits" "chains" "LDegreewall$Links;", Cond.instanceMethod yX4_init, Cond.code yX4_init cX4_init 1 none, Cond.methodLink RX4 3 objectInit]
def wsX6_init_r3 : List Cond := [Cond.fieldLink RX4 9 "Degreewall$Sums" "values" "[I", Cond.classLink RX4 15 RX1, Cond.fieldLink RX4 18 "Degreewall$Sums" "talks" "LDegreewall$Links;", Cond.fieldLink RX4 22 "Degreewall$Sums" "hearers" "[I", Cond.fieldLink RX4 25 "Degreewall$Sums" "told" "[I", Cond.fieldLink RX4 28 "Degreewall$Sums" "refused" "[I", Cond.classLink RX4 31 RX3, Cond.instantiable RX3 3, Cond.initialized RX3, Cond.fieldLink RX4 34 "Degreewall$Sums" "span" "LDegreewall$Span;", Cond.fieldLink RX4 38 "Degreewall$Sums" "least" "I", Cond.instanceMethod yX3_init, Cond.code yX3_init cX3_init 1 none, Cond.methodLink RX3 3 objectInit, Cond.classLink RX3 9 "[[I", Cond.fieldLink RX3 11 "Degreewall$Span" "rows" "[[I", Cond.fieldLink RX3 16 "Degreewall$Span" "rest" "[I"]
def wsX6_init : List Cond := .code yX6_init cX6_init 1 none :: ((wsX6_init_r1 ++ (wsX6_init_r2 ++ wsX6_init_r3)) ++ wsX00 ++ wsX60 ++ wsX50 ++ wsX20 ++ wsX40 ++ wsX10 ++ wsX30)
def wsX6_source : List Cond := .code yX6_source cX6_source 1 (some .int) :: ([.classLink RX6 41 "java/lang/IllegalStateException", .initialized "java/lang/IllegalStateException", .fieldLink RX6 10 "Degreewall" "kinship" "LDegreewall$Kinship;", .methodLink RX6 37 yX0_count, .instanceMethod yX0_count, .selects RX0 yX0_count yX0_count, .initialized RX0, .code yX0_count cX0_count 1 (some .int), .fieldLink RX0 26 "Degreewall$Kinship" "count" "I", .methodLink RX6 48 yX0_addSource, .instanceMethod yX0_addSource, .selects RX0 yX0_addSource yX0_addSource, .code yX0_addSource cX0_addSource 1 (some .int)] ++ wsX60 ++ wsX00 ++ (vx_atS RX6 45 "java/lang/IllegalStateException" ["java/lang/RuntimeException", "java/lang/Exception"]).filter goodWord)
def wsX6_needSource : List Cond := .code yX6_needSource cX6_needSource 2 none :: ([.classLink RX6 177 "java/lang/IndexOutOfBoundsException", .initialized "java/lang/IndexOutOfBoundsException", .fieldLink RX6 10 "Degreewall" "kinship" "LDegreewall$Kinship;", .methodLink RX6 322 yX0_knows, .instanceMethod yX0_knows, .selects RX0 yX0_knows yX0_knows, .initialized RX0, .code yX0_knows cX0_knows 2 (some .boolean), .fieldLink RX0 26 "Degreewall$Kinship" "count" "I"] ++ wsX60 ++ wsX00 ++ (vx_atS RX6 181 "java/lang/IndexOutOfBoundsException" ["java/lang/RuntimeException", "java/lang/Exception"]).filter goodWord)
def wsX6_applyBar_r1 : List Cond := [Cond.fieldLink RX6 26 "Degreewall" "permits" "LDegreewall$Permits;", Cond.fieldLink RX6 10 "Degreewall" "kinship" "LDegreewall$Kinship;", Cond.fieldLink RX6 19 "Degreewall" "tables" "LDegreewall$Tables;", Cond.methodLink RX6 97 yX2_findRepair, Cond.instanceMethod yX2_findRepair, Cond.selects RX2 yX2_findRepair yX2_findRepair, Cond.initialized RX2, Cond.code yX2_findRepair cX2_findRepair 6 none, Cond.fieldLink RX2 35 "Degreewall$Permits" "repair" "I", Cond.methodLink RX2 45 yX2_inForce, Cond.instanceMethod yX2_inForce, Cond.selects RX2 yX2_inForce yX2_inForce, Cond.code yX2_inForce cX2_inForce 3 (some .int), Cond.fieldLink RX2 28 "Degreewall$Permits" "count" "I", Cond.methodLink RX2 64 yX2_isInForce, Cond.instanceMethod yX2_isInForce, Cond.selects RX2 yX2_isInForce yX2_isInForce, Cond.code yX2_isInForce cX2_isInForce 2 (some .boolean), Cond.fieldLink RX2 32 "Degreewall$Permits" "today" "I", Cond.fieldLink RX2 18 "Degreewall$Permits" "lastDay" "[I", Cond.fieldLink RX2 38 "Degreewall$Permits" "revoked" "I", Cond.static yX6_contains, Cond.initialized RX6, Cond.code yX6_contains cX6_contains 2 (some .boolean)]
def wsX6_applyBar_r2 : List Cond := [Cond.methodLink RX2 49 yJ6_bitCount_0f7a4, Cond.static yJ6_bitCount_0f7a4, Cond.initialized RJ6, Cond.code yJ6_bitCount_0f7a4 cJ6_bitCount_0f7a4 1 (some .int), Cond.constant RJ6 265 (1431655765), Cond.constant RJ6 266 (858993459), Cond.constant RJ6 267 (252645135), Cond.methodLink RX2 81 yX2_leaksBy, Cond.instanceMethod yX2_leaksBy, Cond.selects RX2 yX2_leaksBy yX2_leaksBy, Cond.code yX2_leaksBy cX2_leaksBy 6 (some .int), Cond.fieldLink RX2 24 "Degreewall$Permits" "chains" "LDegreewall$Links;", Cond.methodLink RX2 71 yX2_layOut, Cond.instanceMethod yX2_layOut, Cond.selects RX2 yX2_layOut yX2_layOut, Cond.code yX2_layOut cX2_layOut 3 none, Cond.fieldLink RX2 9 "Degreewall$Permits" "smaller" "[I", Cond.fieldLink RX2 15 "Degreewall$Permits" "greater" "[I", Cond.methodLink RX2 85 yX1_cutAll, Cond.instanceMethod yX1_cutAll, Cond.selects RX1 yX1_cutAll yX1_cutAll, Cond.initialized RX1, Cond.code yX1_cutAll cX1_cutAll 2 none, Cond.fieldLink RX1 9 "Degreewall$Links" "near" "[I"]
def wsX6_applyBar_r3 : List Cond := [Cond.methodLink RX2 88 yX1_link, Cond.instanceMethod yX1_link, Cond.selects RX1 yX1_link yX1_link, Cond.code yX1_link cX1_link 3 none, Cond.methodLink RX2 92 yX0_count, Cond.instanceMethod yX0_count, Cond.selects RX0 yX0_count yX0_count, Cond.initialized RX0, Cond.code yX0_count cX0_count 1 (some .int), Cond.fieldLink RX0 26 "Degreewall$Kinship" "count" "I", Cond.methodLink RX2 96 yX0_within, Cond.instanceMethod yX0_within, Cond.selects RX0 yX0_within yX0_within, Cond.code yX0_within cX0_within 2 (some .int), Cond.fieldLink RX0 18 "Degreewall$Kinship" "barred" "[I", Cond.methodLink RX2 75 yX1_reach, Cond.instanceMethod yX1_reach, Cond.selects RX1 yX1_reach yX1_reach, Cond.code yX1_reach cX1_reach 5 (some .int), Cond.methodLink RX1 15 yX1_widened, Cond.instanceMethod yX1_widened, Cond.selects RX1 yX1_widened yX1_widened, Cond.code yX1_widened cX1_widened 4 (some .int), Cond.methodLink RX6 319 yX5_strike]
def wsX6_applyBar_r4 : List Cond := [Cond.instanceMethod yX5_strike, Cond.selects RX5 yX5_strike yX5_strike, Cond.initialized RX5, Cond.code yX5_strike cX5_strike 4 (some .int), Cond.fieldLink RX5 15 "Degreewall$Tables" "count" "I", Cond.fieldLink RX5 9 "Degreewall$Tables" "lines" "[I", Cond.fieldLink RX5 19 "Degreewall$Tables" "struck" "I", Cond.methodLink RX5 32 yX5_countStruck, Cond.instanceMethod yX5_countStruck, Cond.selects RX5 yX5_countStruck yX5_countStruck, Cond.code yX5_countStruck cX5_countStruck 1 (some .int), Cond.methodLink RX5 26 yJ6_bitCount_0f7a4, Cond.methodLink RX5 36 yX0_firstPairWithin, Cond.instanceMethod yX0_firstPairWithin, Cond.selects RX0 yX0_firstPairWithin yX0_firstPairWithin, Cond.code yX0_firstPairWithin cX0_firstPairWithin 5 (some .int)]
def wsX6_applyBar : List Cond := .code yX6_applyBar cX6_applyBar 1 (some .int) :: ((wsX6_applyBar_r1 ++ (wsX6_applyBar_r2 ++ (wsX6_applyBar_r3 ++ wsX6_applyBar_r4))) ++ wsX60 ++ wsX20 ++ wsX10 ++ wsX00 ++ wsX50)
def wsX6_kin_r1 : List Cond := [Cond.classLink RX6 55 "java/lang/IllegalArgumentException", Cond.initialized "java/lang/IllegalArgumentException", Cond.fieldLink RX6 10 "Degreewall" "kinship" "LDegreewall$Kinship;", Cond.methodLink RX6 51 yX6_needSource, Cond.instanceMethod yX6_needSource, Cond.selects RX6 yX6_needSource yX6_needSource, Cond.initialized RX6, Cond.code yX6_needSource cX6_needSource 2 none, Cond.classLink RX6 177 "java/lang/IndexOutOfBoundsException", Cond.initialized "java/lang/IndexOutOfBoundsException", Cond.methodLink RX6 322 yX0_knows, Cond.instanceMethod yX0_knows, Cond.selects RX0 yX0_knows yX0_knows, Cond.initialized RX0, Cond.code yX0_knows cX0_knows 2 (some .boolean), Cond.fieldLink RX0 26 "Degreewall$Kinship" "count" "I", Cond.methodLink RX6 60 yX0_tellKin, Cond.instanceMethod yX0_tellKin, Cond.selects RX0 yX0_tellKin yX0_tellKin, Cond.code yX0_tellKin cX0_tellKin 4 none, Cond.fieldLink RX0 12 "Degreewall$Kinship" "kin" "LDegreewall$Links;", Cond.methodLink RX0 29 yX1_link, Cond.instanceMethod yX1_link, Cond.selects RX1 yX1_link yX1_link]
def wsX6_kin_r2 : List Cond := [Cond.initialized RX1, Cond.code yX1_link cX1_link 3 none, Cond.fieldLink RX1 9 "Degreewall$Links" "near" "[I", Cond.methodLink RX0 33 yX1_cut, Cond.instanceMethod yX1_cut, Cond.selects RX1 yX1_cut yX1_cut, Cond.code yX1_cut cX1_cut 3 none, Cond.methodLink RX0 36 yX0_findBarred, Cond.instanceMethod yX0_findBarred, Cond.selects RX0 yX0_findBarred yX0_findBarred, Cond.code yX0_findBarred cX0_findBarred 2 none, Cond.fieldLink RX0 18 "Degreewall$Kinship" "barred" "[I", Cond.fieldLink RX0 22 "Degreewall$Kinship" "bar" "I", Cond.methodLink RX0 51 yX1_reach, Cond.instanceMethod yX1_reach, Cond.selects RX1 yX1_reach yX1_reach, Cond.code yX1_reach cX1_reach 5 (some .int), Cond.methodLink RX1 15 yX1_widened, Cond.instanceMethod yX1_widened, Cond.selects RX1 yX1_widened yX1_widened, Cond.code yX1_widened cX1_widened 4 (some .int), Cond.static yX6_contains, Cond.code yX6_contains cX6_contains 2 (some .boolean), Cond.methodLink RX6 64 yX6_applyBar]
def wsX6_kin_r3 : List Cond := [Cond.instanceMethod yX6_applyBar, Cond.selects RX6 yX6_applyBar yX6_applyBar, Cond.code yX6_applyBar cX6_applyBar 1 (some .int), Cond.fieldLink RX6 26 "Degreewall" "permits" "LDegreewall$Permits;", Cond.fieldLink RX6 19 "Degreewall" "tables" "LDegreewall$Tables;", Cond.methodLink RX6 97 yX2_findRepair, Cond.instanceMethod yX2_findRepair, Cond.selects RX2 yX2_findRepair yX2_findRepair, Cond.initialized RX2, Cond.code yX2_findRepair cX2_findRepair 6 none, Cond.fieldLink RX2 35 "Degreewall$Permits" "repair" "I", Cond.methodLink RX2 45 yX2_inForce, Cond.instanceMethod yX2_inForce, Cond.selects RX2 yX2_inForce yX2_inForce, Cond.code yX2_inForce cX2_inForce 3 (some .int), Cond.fieldLink RX2 28 "Degreewall$Permits" "count" "I", Cond.methodLink RX2 64 yX2_isInForce, Cond.instanceMethod yX2_isInForce, Cond.selects RX2 yX2_isInForce yX2_isInForce, Cond.code yX2_isInForce cX2_isInForce 2 (some .boolean), Cond.fieldLink RX2 32 "Degreewall$Permits" "today" "I", Cond.fieldLink RX2 18 "Degreewall$Permits" "lastDay" "[I", Cond.fieldLink RX2 38 "Degreewall$Permits" "revoked" "I", Cond.methodLink RX2 49 yJ6_bitCount_0f7a4]
def wsX6_kin_r4 : List Cond := [Cond.static yJ6_bitCount_0f7a4, Cond.initialized RJ6, Cond.code yJ6_bitCount_0f7a4 cJ6_bitCount_0f7a4 1 (some .int), Cond.constant RJ6 265 (1431655765), Cond.constant RJ6 266 (858993459), Cond.constant RJ6 267 (252645135), Cond.methodLink RX2 81 yX2_leaksBy, Cond.instanceMethod yX2_leaksBy, Cond.selects RX2 yX2_leaksBy yX2_leaksBy, Cond.code yX2_leaksBy cX2_leaksBy 6 (some .int), Cond.fieldLink RX2 24 "Degreewall$Permits" "chains" "LDegreewall$Links;", Cond.methodLink RX2 71 yX2_layOut, Cond.instanceMethod yX2_layOut, Cond.selects RX2 yX2_layOut yX2_layOut, Cond.code yX2_layOut cX2_layOut 3 none, Cond.fieldLink RX2 9 "Degreewall$Permits" "smaller" "[I", Cond.fieldLink RX2 15 "Degreewall$Permits" "greater" "[I", Cond.methodLink RX2 85 yX1_cutAll, Cond.instanceMethod yX1_cutAll, Cond.selects RX1 yX1_cutAll yX1_cutAll, Cond.code yX1_cutAll cX1_cutAll 2 none, Cond.methodLink RX2 88 yX1_link, Cond.methodLink RX2 92 yX0_count, Cond.instanceMethod yX0_count]
def wsX6_kin_r5 : List Cond := [Cond.selects RX0 yX0_count yX0_count, Cond.code yX0_count cX0_count 1 (some .int), Cond.methodLink RX2 96 yX0_within, Cond.instanceMethod yX0_within, Cond.selects RX0 yX0_within yX0_within, Cond.code yX0_within cX0_within 2 (some .int), Cond.methodLink RX2 75 yX1_reach, Cond.methodLink RX6 319 yX5_strike, Cond.instanceMethod yX5_strike, Cond.selects RX5 yX5_strike yX5_strike, Cond.initialized RX5, Cond.code yX5_strike cX5_strike 4 (some .int), Cond.fieldLink RX5 15 "Degreewall$Tables" "count" "I", Cond.fieldLink RX5 9 "Degreewall$Tables" "lines" "[I", Cond.fieldLink RX5 19 "Degreewall$Tables" "struck" "I", Cond.methodLink RX5 32 yX5_countStruck, Cond.instanceMethod yX5_countStruck, Cond.selects RX5 yX5_countStruck yX5_countStruck, Cond.code yX5_countStruck cX5_countStruck 1 (some .int), Cond.methodLink RX5 26 yJ6_bitCount_0f7a4, Cond.methodLink RX5 36 yX0_firstPairWithin, Cond.instanceMethod yX0_firstPairWithin, Cond.selects RX0 yX0_firstPairWithin yX0_firstPairWithin, Cond.code yX0_firstPairWithin cX0_firstPairWithin 5 (some .int)]
def wsX6_kin : List Cond := .code yX6_kin cX6_kin 4 (some .int) :: ((wsX6_kin_r1 ++ (wsX6_kin_r2 ++ (wsX6_kin_r3 ++ (wsX6_kin_r4 ++ wsX6_kin_r5)))) ++ wsX60 ++ wsX00 ++ wsX10 ++ wsX20 ++ wsX50 ++ (vx_atS RX6 59 "java/lang/IllegalArgumentException" ["java/lang/RuntimeException", "java/lang/Exception"]).filter goodWord ++ (vx_atS RX6 181 "java/lang/IndexOutOfBoundsException" ["java/lang/RuntimeException", "java/lang/Exception"]).filter goodWord)
def wsX6_bar_r1 : List Cond := [Cond.classLink RX6 55 "java/lang/IllegalArgumentException", Cond.initialized "java/lang/IllegalArgumentException", Cond.fieldLink RX6 10 "Degreewall" "kinship" "LDegreewall$Kinship;", Cond.methodLink RX6 69 yX0_tellBar, Cond.instanceMethod yX0_tellBar, Cond.selects RX0 yX0_tellBar yX0_tellBar, Cond.initialized RX0, Cond.code yX0_tellBar cX0_tellBar 2 none, Cond.fieldLink RX0 22 "Degreewall$Kinship" "bar" "I", Cond.methodLink RX0 36 yX0_findBarred, Cond.instanceMethod yX0_findBarred, Cond.selects RX0 yX0_findBarred yX0_findBarred, Cond.code yX0_findBarred cX0_findBarred 2 none, Cond.fieldLink RX0 18 "Degreewall$Kinship" "barred" "[I", Cond.fieldLink RX0 12 "Degreewall$Kinship" "kin" "LDegreewall$Links;", Cond.methodLink RX0 51 yX1_reach, Cond.instanceMethod yX1_reach, Cond.selects RX1 yX1_reach yX1_reach, Cond.initialized RX1, Cond.code yX1_reach cX1_reach 5 (some .int), Cond.methodLink RX1 15 yX1_widened, Cond.instanceMethod yX1_widened, Cond.selects RX1 yX1_widened yX1_widened, Cond.code yX1_widened cX1_widened 4 (some .int)]
def wsX6_bar_r2 : List Cond := [Cond.fieldLink RX1 9 "Degreewall$Links" "near" "[I", Cond.static yX6_contains, Cond.initialized RX6, Cond.code yX6_contains cX6_contains 2 (some .boolean), Cond.methodLink RX6 64 yX6_applyBar, Cond.instanceMethod yX6_applyBar, Cond.selects RX6 yX6_applyBar yX6_applyBar, Cond.code yX6_applyBar cX6_applyBar 1 (some .int), Cond.fieldLink RX6 26 "Degreewall" "permits" "LDegreewall$Permits;", Cond.fieldLink RX6 19 "Degreewall" "tables" "LDegreewall$Tables;", Cond.methodLink RX6 97 yX2_findRepair, Cond.instanceMethod yX2_findRepair, Cond.selects RX2 yX2_findRepair yX2_findRepair, Cond.initialized RX2, Cond.code yX2_findRepair cX2_findRepair 6 none, Cond.fieldLink RX2 35 "Degreewall$Permits" "repair" "I", Cond.methodLink RX2 45 yX2_inForce, Cond.instanceMethod yX2_inForce, Cond.selects RX2 yX2_inForce yX2_inForce, Cond.code yX2_inForce cX2_inForce 3 (some .int), Cond.fieldLink RX2 28 "Degreewall$Permits" "count" "I", Cond.methodLink RX2 64 yX2_isInForce, Cond.instanceMethod yX2_isInForce, Cond.selects RX2 yX2_isInForce yX2_isInForce]
def wsX6_bar_r3 : List Cond := [Cond.code yX2_isInForce cX2_isInForce 2 (some .boolean), Cond.fieldLink RX2 32 "Degreewall$Permits" "today" "I", Cond.fieldLink RX2 18 "Degreewall$Permits" "lastDay" "[I", Cond.fieldLink RX2 38 "Degreewall$Permits" "revoked" "I", Cond.methodLink RX2 49 yJ6_bitCount_0f7a4, Cond.static yJ6_bitCount_0f7a4, Cond.initialized RJ6, Cond.code yJ6_bitCount_0f7a4 cJ6_bitCount_0f7a4 1 (some .int), Cond.constant RJ6 265 (1431655765), Cond.constant RJ6 266 (858993459), Cond.constant RJ6 267 (252645135), Cond.methodLink RX2 81 yX2_leaksBy, Cond.instanceMethod yX2_leaksBy, Cond.selects RX2 yX2_leaksBy yX2_leaksBy, Cond.code yX2_leaksBy cX2_leaksBy 6 (some .int), Cond.fieldLink RX2 24 "Degreewall$Permits" "chains" "LDegreewall$Links;", Cond.methodLink RX2 71 yX2_layOut, Cond.instanceMethod yX2_layOut, Cond.selects RX2 yX2_layOut yX2_layOut, Cond.code yX2_layOut cX2_layOut 3 none, Cond.fieldLink RX2 9 "Degreewall$Permits" "smaller" "[I", Cond.fieldLink RX2 15 "Degreewall$Permits" "greater" "[I", Cond.methodLink RX2 85 yX1_cutAll, Cond.instanceMethod yX1_cutAll]
def wsX6_bar_r4 : List Cond := [Cond.selects RX1 yX1_cutAll yX1_cutAll, Cond.code yX1_cutAll cX1_cutAll 2 none, Cond.methodLink RX2 88 yX1_link, Cond.instanceMethod yX1_link, Cond.selects RX1 yX1_link yX1_link, Cond.code yX1_link cX1_link 3 none, Cond.methodLink RX2 92 yX0_count, Cond.instanceMethod yX0_count, Cond.selects RX0 yX0_count yX0_count, Cond.code yX0_count cX0_count 1 (some .int), Cond.fieldLink RX0 26 "Degreewall$Kinship" "count" "I", Cond.methodLink RX2 96 yX0_within, Cond.instanceMethod yX0_within, Cond.selects RX0 yX0_within yX0_within, Cond.code yX0_within cX0_within 2 (some .int), Cond.methodLink RX2 75 yX1_reach, Cond.methodLink RX6 319 yX5_strike, Cond.instanceMethod yX5_strike, Cond.selects RX5 yX5_strike yX5_strike, Cond.initialized RX5, Cond.code yX5_strike cX5_strike 4 (some .int), Cond.fieldLink RX5 15 "Degreewall$Tables" "count" "I", Cond.fieldLink RX5 9 "Degreewall$Tables" "lines" "[I", Cond.fieldLink RX5 19 "Degreewall$Tables" "struck" "I"]
def wsX6_bar_r5 : List Cond := [Cond.methodLink RX5 32 yX5_countStruck, Cond.instanceMethod yX5_countStruck, Cond.selects RX5 yX5_countStruck yX5_countStruck, Cond.code yX5_countStruck cX5_countStruck 1 (some .int), Cond.methodLink RX5 26 yJ6_bitCount_0f7a4, Cond.methodLink RX5 36 yX0_firstPairWithin, Cond.instanceMethod yX0_firstPairWithin, Cond.selects RX0 yX0_firstPairWithin yX0_firstPairWithin, Cond.code yX0_firstPairWithin cX0_firstPairWithin 5 (some .int)]
def wsX6_bar : List Cond := .code yX6_bar cX6_bar 2 (some .int) :: ((wsX6_bar_r1 ++ (wsX6_bar_r2 ++ (wsX6_bar_r3 ++ (wsX6_bar_r4 ++ wsX6_bar_r5)))) ++ wsX60 ++ wsX00 ++ wsX10 ++ wsX20 ++ wsX50 ++ (vx_atS RX6 59 "java/lang/IllegalArgumentException" ["java/lang/RuntimeException", "java/lang/Exception"]).filter goodWord)
def wsX6_lineOf_r1 : List Cond := [Cond.classLink RX6 177 "java/lang/IndexOutOfBoundsException", Cond.initialized "java/lang/IndexOutOfBoundsException", Cond.fieldLink RX6 10 "Degreewall" "kinship" "LDegreewall$Kinship;", Cond.fieldLink RX6 19 "Degreewall" "tables" "LDegreewall$Tables;", Cond.methodLink RX6 322 yX0_knows, Cond.instanceMethod yX0_knows, Cond.selects RX0 yX0_knows yX0_knows, Cond.initialized RX0, Cond.code yX0_knows cX0_knows 2 (some .boolean), Cond.fieldLink RX0 26 "Degreewall$Kinship" "count" "I", Cond.methodLink RX6 174 yX5_knows, Cond.instanceMethod yX5_knows, Cond.selects RX5 yX5_knows yX5_knows, Cond.initialized RX5, Cond.code yX5_knows cX5_knows 2 (some .boolean), Cond.fieldLink RX5 15 "Degreewall$Tables" "count" "I", Cond.methodLink RX6 185 yX5_isStruck, Cond.instanceMethod yX5_isStruck, Cond.selects RX5 yX5_isStruck yX5_isStruck, Cond.code yX5_isStruck cX5_isStruck 2 (some .boolean), Cond.fieldLink RX5 19 "Degreewall$Tables" "struck" "I", Cond.static yX6_contains, Cond.initialized RX6, Cond.code yX6_contains cX6_contains 2 (some .boolean)]
def wsX6_lineOf_r2 : List Cond := [Cond.methodLink RX6 182 yX5_line, Cond.instanceMethod yX5_line, Cond.selects RX5 yX5_line yX5_line, Cond.code yX5_line cX5_line 2 (some .int), Cond.fieldLink RX5 9 "Degreewall$Tables" "lines" "[I"]
def wsX6_lineOf : List Cond := .code yX6_lineOf cX6_lineOf 2 (some .int) :: ((wsX6_lineOf_r1 ++ wsX6_lineOf_r2) ++ wsX60 ++ wsX00 ++ wsX50 ++ (vx_atS RX6 181 "java/lang/IndexOutOfBoundsException" ["java/lang/RuntimeException", "java/lang/Exception"]).filter goodWord)
def wsX6_join_r1 : List Cond := [Cond.classLink RX6 41 "java/lang/IllegalStateException", Cond.initialized "java/lang/IllegalStateException", Cond.fieldLink RX6 10 "Degreewall" "kinship" "LDegreewall$Kinship;", Cond.fieldLink RX6 19 "Degreewall" "tables" "LDegreewall$Tables;", Cond.methodLink RX6 72 yX6_lineOf, Cond.instanceMethod yX6_lineOf, Cond.selects RX6 yX6_lineOf yX6_lineOf, Cond.initialized RX6, Cond.code yX6_lineOf cX6_lineOf 2 (some .int), Cond.classLink RX6 177 "java/lang/IndexOutOfBoundsException", Cond.initialized "java/lang/IndexOutOfBoundsException", Cond.methodLink RX6 322 yX0_knows, Cond.instanceMethod yX0_knows, Cond.selects RX0 yX0_knows yX0_knows, Cond.initialized RX0, Cond.code yX0_knows cX0_knows 2 (some .boolean), Cond.fieldLink RX0 26 "Degreewall$Kinship" "count" "I", Cond.methodLink RX6 174 yX5_knows, Cond.instanceMethod yX5_knows, Cond.selects RX5 yX5_knows yX5_knows, Cond.initialized RX5, Cond.code yX5_knows cX5_knows 2 (some .boolean), Cond.fieldLink RX5 15 "Degreewall$Tables" "count" "I", Cond.methodLink RX6 185 yX5_isStruck]
def wsX6_join_r2 : List Cond := [Cond.instanceMethod yX5_isStruck, Cond.selects RX5 yX5_isStruck yX5_isStruck, Cond.code yX5_isStruck cX5_isStruck 2 (some .boolean), Cond.fieldLink RX5 19 "Degreewall$Tables" "struck" "I", Cond.static yX6_contains, Cond.code yX6_contains cX6_contains 2 (some .boolean), Cond.methodLink RX6 182 yX5_line, Cond.instanceMethod yX5_line, Cond.selects RX5 yX5_line yX5_line, Cond.code yX5_line cX5_line 2 (some .int), Cond.fieldLink RX5 9 "Degreewall$Tables" "lines" "[I", Cond.methodLink RX6 76 yX0_firstPairWithin, Cond.instanceMethod yX0_firstPairWithin, Cond.selects RX0 yX0_firstPairWithin yX0_firstPairWithin, Cond.code yX0_firstPairWithin cX0_firstPairWithin 5 (some .int), Cond.fieldLink RX0 18 "Degreewall$Kinship" "barred" "[I", Cond.methodLink RX6 81 yX5_count, Cond.instanceMethod yX5_count, Cond.selects RX5 yX5_count yX5_count, Cond.code yX5_count cX5_count 1 (some .int), Cond.methodLink RX6 84 yX5_add, Cond.instanceMethod yX5_add, Cond.selects RX5 yX5_add yX5_add, Cond.code yX5_add cX5_add 2 (some .int)]
def wsX6_join : List Cond := .code yX6_join cX6_join 4 (some .int) :: ((wsX6_join_r1 ++ wsX6_join_r2) ++ wsX60 ++ wsX00 ++ wsX50 ++ (vx_atS RX6 45 "java/lang/IllegalStateException" ["java/lang/RuntimeException", "java/lang/Exception"]).filter goodWord ++ (vx_atS RX6 181 "java/lang/IndexOutOfBoundsException" ["java/lang/RuntimeException", "java/lang/Exception"]).filter goodWord)
def wsX6_permit_r1 : List Cond := [Cond.classLink RX6 55 "java/lang/IllegalArgumentException", Cond.initialized "java/lang/IllegalArgumentException", Cond.classLink RX6 41 "java/lang/IllegalStateException", Cond.initialized "java/lang/IllegalStateException", Cond.fieldLink RX6 26 "Degreewall" "permits" "LDegreewall$Permits;", Cond.fieldLink RX6 10 "Degreewall" "kinship" "LDegreewall$Kinship;", Cond.methodLink RX6 51 yX6_needSource, Cond.instanceMethod yX6_needSource, Cond.selects RX6 yX6_needSource yX6_needSource, Cond.initialized RX6, Cond.code yX6_needSource cX6_needSource 2 none, Cond.classLink RX6 177 "java/lang/IndexOutOfBoundsException", Cond.initialized "java/lang/IndexOutOfBoundsException", Cond.methodLink RX6 322 yX0_knows, Cond.instanceMethod yX0_knows, Cond.selects RX0 yX0_knows yX0_knows, Cond.initialized RX0, Cond.code yX0_knows cX0_knows 2 (some .boolean), Cond.fieldLink RX0 26 "Degreewall$Kinship" "count" "I", Cond.methodLink RX6 91 yX2_count, Cond.instanceMethod yX2_count, Cond.selects RX2 yX2_count yX2_count, Cond.initialized RX2, Cond.code yX2_count cX2_count 1 (some .int)]
def wsX6_permit_r2 : List Cond := [Cond.fieldLink RX2 28 "Degreewall$Permits" "count" "I", Cond.methodLink RX6 94 yX2_add, Cond.instanceMethod yX2_add, Cond.selects RX2 yX2_add yX2_add, Cond.code yX2_add cX2_add 4 (some .int), Cond.fieldLink RX2 9 "Degreewall$Permits" "smaller" "[I", Cond.methodLink RX2 55 Lib.Math.min.name, Cond.static Lib.Math.min.name, Cond.initialized "java/lang/Math", Cond.code Lib.Math.min.name Lib.Math.min.code 2 (some .int), Cond.fieldLink RX2 15 "Degreewall$Permits" "greater" "[I", Cond.methodLink RX2 61 Lib.Math.max.name, Cond.static Lib.Math.max.name, Cond.code Lib.Math.max.name Lib.Math.max.code 2 (some .int), Cond.fieldLink RX2 18 "Degreewall$Permits" "lastDay" "[I", Cond.fieldLink RX2 32 "Degreewall$Permits" "today" "I", Cond.methodLink RX6 97 yX2_findRepair, Cond.instanceMethod yX2_findRepair, Cond.selects RX2 yX2_findRepair yX2_findRepair, Cond.code yX2_findRepair cX2_findRepair 6 none, Cond.fieldLink RX2 35 "Degreewall$Permits" "repair" "I", Cond.methodLink RX2 45 yX2_inForce, Cond.instanceMethod yX2_inForce, Cond.selects RX2 yX2_inForce yX2_inForce]
def wsX6_permit_r3 : List Cond := [Cond.code yX2_inForce cX2_inForce 3 (some .int), Cond.methodLink RX2 64 yX2_isInForce, Cond.instanceMethod yX2_isInForce, Cond.selects RX2 yX2_isInForce yX2_isInForce, Cond.code yX2_isInForce cX2_isInForce 2 (some .boolean), Cond.fieldLink RX2 38 "Degreewall$Permits" "revoked" "I", Cond.static yX6_contains, Cond.code yX6_contains cX6_contains 2 (some .boolean), Cond.methodLink RX2 49 yJ6_bitCount_0f7a4, Cond.static yJ6_bitCount_0f7a4, Cond.initialized RJ6, Cond.code yJ6_bitCount_0f7a4 cJ6_bitCount_0f7a4 1 (some .int), Cond.constant RJ6 265 (1431655765), Cond.constant RJ6 266 (858993459), Cond.constant RJ6 267 (252645135), Cond.methodLink RX2 81 yX2_leaksBy, Cond.instanceMethod yX2_leaksBy, Cond.selects RX2 yX2_leaksBy yX2_leaksBy, Cond.code yX2_leaksBy cX2_leaksBy 6 (some .int), Cond.fieldLink RX2 24 "Degreewall$Permits" "chains" "LDegreewall$Links;", Cond.methodLink RX2 71 yX2_layOut, Cond.instanceMethod yX2_layOut, Cond.selects RX2 yX2_layOut yX2_layOut, Cond.code yX2_layOut cX2_layOut 3 none]
def wsX6_permit_r4 : List Cond := [Cond.methodLink RX2 85 yX1_cutAll, Cond.instanceMethod yX1_cutAll, Cond.selects RX1 yX1_cutAll yX1_cutAll, Cond.initialized RX1, Cond.code yX1_cutAll cX1_cutAll 2 none, Cond.fieldLink RX1 9 "Degreewall$Links" "near" "[I", Cond.methodLink RX2 88 yX1_link, Cond.instanceMethod yX1_link, Cond.selects RX1 yX1_link yX1_link, Cond.code yX1_link cX1_link 3 none, Cond.methodLink RX2 92 yX0_count, Cond.instanceMethod yX0_count, Cond.selects RX0 yX0_count yX0_count, Cond.code yX0_count cX0_count 1 (some .int), Cond.methodLink RX2 96 yX0_within, Cond.instanceMethod yX0_within, Cond.selects RX0 yX0_within yX0_within, Cond.code yX0_within cX0_within 2 (some .int), Cond.fieldLink RX0 18 "Degreewall$Kinship" "barred" "[I", Cond.methodLink RX2 75 yX1_reach, Cond.instanceMethod yX1_reach, Cond.selects RX1 yX1_reach yX1_reach, Cond.code yX1_reach cX1_reach 5 (some .int), Cond.methodLink RX1 15 yX1_widened]
def wsX6_permit_r5 : List Cond := [Cond.instanceMethod yX1_widened, Cond.selects RX1 yX1_widened yX1_widened, Cond.code yX1_widened cX1_widened 4 (some .int)]
def wsX6_permit : List Cond := .code yX6_permit cX6_permit 5 (some .int) :: ((wsX6_permit_r1 ++ (wsX6_permit_r2 ++ (wsX6_permit_r3 ++ (wsX6_permit_r4 ++ wsX6_permit_r5)))) ++ wsX60 ++ wsX00 ++ wsX20 ++ wsX10 ++ (vx_atS RX6 59 "java/lang/IllegalArgumentException" ["java/lang/RuntimeException", "java/lang/Exception"]).filter goodWord ++ (vx_atS RX6 45 "java/lang/IllegalStateException" ["java/lang/RuntimeException", "java/lang/Exception"]).filter goodWord ++ (vx_atS RX6 181 "java/lang/IndexOutOfBoundsException" ["java/lang/RuntimeException", "java/lang/Exception"]).filter goodWord)
def wsX6_person : List Cond := .code yX6_person cX6_person 2 (some .int) :: ([.classLink RX6 55 "java/lang/IllegalArgumentException", .initialized "java/lang/IllegalArgumentException", .classLink RX6 41 "java/lang/IllegalStateException", .initialized "java/lang/IllegalStateException", .fieldLink RX6 33 "Degreewall" "sums" "LDegreewall$Sums;", .methodLink RX6 120 yX4_people, .instanceMethod yX4_people, .selects RX4 yX4_people yX4_people, .initialized RX4, .code yX4_people cX4_people 1 (some .int), .fieldLink RX4 42 "Degreewall$Sums" "people" "I", .methodLink RX6 125 yX4_addPerson, .instanceMethod yX4_addPerson, .selects RX4 yX4_addPerson yX4_addPerson, .code yX4_addPerson cX4_addPerson 2 (some .int), .fieldLink RX4 9 "Degreewall$Sums" "values" "[I"] ++ wsX60 ++ wsX40 ++ (vx_atS RX6 59 "java/lang/IllegalArgumentException" ["java/lang/RuntimeException", "java/lang/Exception"]).filter goodWord ++ (vx_atS RX6 45 "java/lang/IllegalStateException" ["java/lang/RuntimeException", "java/lang/Exception"]).filter goodWord)
def wsX6_asker : List Cond := .code yX6_asker cX6_asker 1 (some .int) :: ([.classLink RX6 41 "java/lang/IllegalStateException", .initialized "java/lang/IllegalStateException", .fieldLink RX6 33 "Degreewall" "sums" "LDegreewall$Sums;", .methodLink RX6 128 yX4_askers, .instanceMethod yX4_askers, .selects RX4 yX4_askers yX4_askers, .initialized RX4, .code yX4_askers cX4_askers 1 (some .int), .fieldLink RX4 45 "Degreewall$Sums" "askers" "I", .methodLink RX6 133 yX4_addAsker, .instanceMethod yX4_addAsker, .selects RX4 yX4_addAsker yX4_addAsker, .code yX4_addAsker cX4_addAsker 1 (some .int)] ++ wsX60 ++ wsX40 ++ (vx_atS RX6 45 "java/lang/IllegalStateException" ["java/lang/RuntimeException", "java/lang/Exception"]).filter goodWord)
def wsX6_needAsker : List Cond := .code yX6_needAsker cX6_needAsker 2 none :: ([.classLink RX6 177 "java/lang/IndexOutOfBoundsException", .initialized "java/lang/IndexOutOfBoundsException", .fieldLink RX6 33 "Degreewall" "sums" "LDegreewall$Sums;", .methodLink RX6 330 yX4_knowsAsker, .instanceMethod yX4_knowsAsker, .selects RX4 yX4_knowsAsker yX4_knowsAsker, .initialized RX4, .code yX4_knowsAsker cX4_knowsAsker 2 (some .boolean), .fieldLink RX4 45 "Degreewall$Sums" "askers" "I"] ++ wsX60 ++ wsX40 ++ (vx_atS RX6 181 "java/lang/IndexOutOfBoundsException" ["java/lang/RuntimeException", "java/lang/Exception"]).filter goodWord)
def wsX6_needPeople : List Cond := .code yX6_needPeople cX6_needPeople 2 none :: ([.classLink RX6 55 "java/lang/IllegalArgumentException", .initialized "java/lang/IllegalArgumentException", .fieldLink RX6 33 "Degreewall" "sums" "LDegreewall$Sums;", .methodLink RX6 335 yX4_knowsPeople, .instanceMethod yX4_knowsPeople, .selects RX4 yX4_knowsPeople yX4_knowsPeople, .initialized RX4, .code yX4_knowsPeople cX4_knowsPeople 2 (some .boolean), .methodLink RX4 48 yX4_everybody, .instanceMethod yX4_everybody, .selects RX4 yX4_everybody yX4_everybody, .code yX4_everybody cX4_everybody 1 (some .int), .fieldLink RX4 42 "Degreewall$Sums" "people" "I"] ++ wsX60 ++ wsX40 ++ (vx_atS RX6 59 "java/lang/IllegalArgumentException" ["java/lang/RuntimeException", "java/lang/Exception"]).filter goodWord)
def wsX6_needSomePeople : List Cond := .code yX6_needSomePeople cX6_needSomePeople 2 none :: ([.classLink RX6 55 "java/lang/IllegalArgumentException", .initialized "java/lang/IllegalArgumentException", .methodLink RX6 222 yX6_needPeople, .instanceMethod yX6_needPeople, .selects RX6 yX6_needPeople yX6_needPeople, .initialized RX6, .code yX6_needPeople cX6_needPeople 2 none, .fieldLink RX6 33 "Degreewall" "sums" "LDegreewall$Sums;", .methodLink RX6 335 yX4_knowsPeople, .instanceMethod yX4_knowsPeople, .selects RX4 yX4_knowsPeople yX4_knowsPeople, .initialized RX4, .code yX4_knowsPeople cX4_knowsPeople 2 (some .boolean), .methodLink RX4 48 yX4_everybody, .instanceMethod yX4_everybody, .selects RX4 yX4_everybody yX4_everybody, .code yX4_everybody cX4_everybody 1 (some .int), .fieldLink RX4 42 "Degreewall$Sums" "people" "I"] ++ wsX60 ++ wsX40 ++ (vx_atS RX6 59 "java/lang/IllegalArgumentException" ["java/lang/RuntimeException", "java/lang/Exception"]).filter goodWord)
def wsX6_ask_r1 : List Cond := [Cond.fieldLink RX6 33 "Degreewall" "sums" "LDegreewall$Sums;", Cond.methodLink RX6 141 yX6_needAsker, Cond.instanceMethod yX6_needAsker, Cond.selects RX6 yX6_needAsker yX6_needAsker, Cond.initialized RX6, Cond.code yX6_needAsker cX6_needAsker 2 none, Cond.classLink RX6 177 "java/lang/IndexOutOfBoundsException", Cond.initialized "java/lang/IndexOutOfBoundsException", Cond.methodLink RX6 330 yX4_knowsAsker, Cond.instanceMethod yX4_knowsAsker, Cond.selects RX4 yX4_knowsAsker yX4_knowsAsker, Cond.initialized RX4, Cond.code yX4_knowsAsker cX4_knowsAsker 2 (some .boolean), Cond.fieldLink RX4 45 "Degreewall$Sums" "askers" "I", Cond.methodLink RX6 144 yX6_needSomePeople, Cond.instanceMethod yX6_needSomePeople, Cond.selects RX6 yX6_needSomePeople yX6_needSomePeople, Cond.code yX6_needSomePeople cX6_needSomePeople 2 none, Cond.classLink RX6 55 "java/lang/IllegalArgumentException", Cond.initialized "java/lang/IllegalArgumentException", Cond.methodLink RX6 222 yX6_needPeople, Cond.instanceMethod yX6_needPeople, Cond.selects RX6 yX6_needPeople yX6_needPeople, Cond.code yX6_needPeople cX6_needPeople 2 none]
def wsX6_ask_r2 : List Cond := [Cond.methodLink RX6 335 yX4_knowsPeople, Cond.instanceMethod yX4_knowsPeople, Cond.selects RX4 yX4_knowsPeople yX4_knowsPeople, Cond.code yX4_knowsPeople cX4_knowsPeople 2 (some .boolean), Cond.methodLink RX4 48 yX4_everybody, Cond.instanceMethod yX4_everybody, Cond.selects RX4 yX4_everybody yX4_everybody, Cond.code yX4_everybody cX4_everybody 1 (some .int), Cond.fieldLink RX4 42 "Degreewall$Sums" "people" "I", Cond.methodLink RX6 147 yX4_tell, Cond.instanceMethod yX4_tell, Cond.selects RX4 yX4_tell yX4_tell, Cond.code yX4_tell cX4_tell 3 (some .int), Cond.fieldLink RX4 38 "Degreewall$Sums" "least" "I", Cond.fieldLink RX4 28 "Degreewall$Sums" "refused" "[I", Cond.fieldLink RX4 22 "Degreewall$Sums" "hearers" "[I", Cond.fieldLink RX4 25 "Degreewall$Sums" "told" "[I", Cond.methodLink RX4 52 yJ6_bitCount_0f7a4, Cond.static yJ6_bitCount_0f7a4, Cond.initialized RJ6, Cond.code yJ6_bitCount_0f7a4 cJ6_bitCount_0f7a4 1 (some .int), Cond.constant RJ6 265 (1431655765), Cond.constant RJ6 266 (858993459), Cond.constant RJ6 267 (252645135)]
def wsX6_ask_r3 : List Cond := [Cond.methodLink RX4 58 yX4_givenAwayWith, Cond.instanceMethod yX4_givenAwayWith, Cond.selects RX4 yX4_givenAwayWith yX4_givenAwayWith, Cond.code yX4_givenAwayWith cX4_givenAwayWith 3 (some .int), Cond.fieldLink RX4 34 "Degreewall$Sums" "span" "LDegreewall$Span;", Cond.methodLink RX4 75 yX4_circle, Cond.instanceMethod yX4_circle, Cond.selects RX4 yX4_circle yX4_circle, Cond.code yX4_circle cX4_circle 2 (some .int), Cond.fieldLink RX4 18 "Degreewall$Sums" "talks" "LDegreewall$Links;", Cond.methodLink RX4 72 yX1_reach, Cond.instanceMethod yX1_reach, Cond.selects RX1 yX1_reach yX1_reach, Cond.initialized RX1, Cond.code yX1_reach cX1_reach 5 (some .int), Cond.methodLink RX1 15 yX1_widened, Cond.instanceMethod yX1_widened, Cond.selects RX1 yX1_widened yX1_widened, Cond.code yX1_widened cX1_widened 4 (some .int), Cond.fieldLink RX1 9 "Degreewall$Links" "near" "[I", Cond.static yX6_contains, Cond.code yX6_contains cX6_contains 2 (some .boolean), Cond.methodLink RX4 78 yX4_fillSpan, Cond.instanceMethod yX4_fillSpan]
def wsX6_ask_r4 : List Cond := [Cond.selects RX4 yX4_fillSpan yX4_fillSpan, Cond.code yX4_fillSpan cX4_fillSpan 3 none, Cond.methodLink RX4 106 yX3_forgetAll, Cond.instanceMethod yX3_forgetAll, Cond.selects RX3 yX3_forgetAll yX3_forgetAll, Cond.initialized RX3, Cond.code yX3_forgetAll cX3_forgetAll 1 none, Cond.fieldLink RX3 20 "Degreewall$Span" "used" "I", Cond.methodLink RX4 93 yX3_add, Cond.instanceMethod yX3_add, Cond.selects RX3 yX3_add yX3_add, Cond.code yX3_add cX3_add 4 none, Cond.fieldLink RX3 11 "Degreewall$Span" "rows" "[[I", Cond.fieldLink RX3 16 "Degreewall$Span" "rest" "[I", Cond.methodLink RX3 24 yX3_firstOfRest, Cond.instanceMethod yX3_firstOfRest, Cond.selects RX3 yX3_firstOfRest yX3_firstOfRest, Cond.code yX3_firstOfRest cX3_firstOfRest 3 (some .int), Cond.methodLink RX3 32 yX3_clearAt, Cond.instanceMethod yX3_clearAt, Cond.selects RX3 yX3_clearAt yX3_clearAt, Cond.code yX3_clearAt cX3_clearAt 7 none, Cond.methodLink RX4 96 yX3_alone, Cond.instanceMethod yX3_alone]
def wsX6_ask_r5 : List Cond := [Cond.selects RX3 yX3_alone yX3_alone, Cond.code yX3_alone cX3_alone 3 (some .int), Cond.methodLink RX3 41 yX3_isAlone, Cond.static yX3_isAlone, Cond.code yX3_isAlone cX3_isAlone 3 (some .boolean), Cond.methodLink RX4 62 yX4_sumOf, Cond.instanceMethod yX4_sumOf, Cond.selects RX4 yX4_sumOf yX4_sumOf, Cond.code yX4_sumOf cX4_sumOf 4 (some .int), Cond.fieldLink RX4 9 "Degreewall$Sums" "values" "[I"]
def wsX6_ask : List Cond := .code yX6_ask cX6_ask 3 (some .int) :: ((wsX6_ask_r1 ++ (wsX6_ask_r2 ++ (wsX6_ask_r3 ++ (wsX6_ask_r4 ++ wsX6_ask_r5)))) ++ wsX60 ++ wsX40 ++ wsX10 ++ wsX30 ++ (vx_atS RX6 181 "java/lang/IndexOutOfBoundsException" ["java/lang/RuntimeException", "java/lang/Exception"]).filter goodWord ++ (vx_atS RX6 59 "java/lang/IllegalArgumentException" ["java/lang/RuntimeException", "java/lang/Exception"]).filter goodWord)
def wsX6_talk_r1 : List Cond := [Cond.classLink RX6 55 "java/lang/IllegalArgumentException", Cond.initialized "java/lang/IllegalArgumentException", Cond.fieldLink RX6 33 "Degreewall" "sums" "LDegreewall$Sums;", Cond.methodLink RX6 141 yX6_needAsker, Cond.instanceMethod yX6_needAsker, Cond.selects RX6 yX6_needAsker yX6_needAsker, Cond.initialized RX6, Cond.code yX6_needAsker cX6_needAsker 2 none, Cond.classLink RX6 177 "java/lang/IndexOutOfBoundsException", Cond.initialized "java/lang/IndexOutOfBoundsException", Cond.methodLink RX6 330 yX4_knowsAsker, Cond.instanceMethod yX4_knowsAsker, Cond.selects RX4 yX4_knowsAsker yX4_knowsAsker, Cond.initialized RX4, Cond.code yX4_knowsAsker cX4_knowsAsker 2 (some .boolean), Cond.fieldLink RX4 45 "Degreewall$Sums" "askers" "I", Cond.methodLink RX6 153 yX4_letTalk, Cond.instanceMethod yX4_letTalk, Cond.selects RX4 yX4_letTalk yX4_letTalk, Cond.code yX4_letTalk cX4_letTalk 3 (some .boolean), Cond.fieldLink RX4 28 "Degreewall$Sums" "refused" "[I", Cond.fieldLink RX4 18 "Degreewall$Sums" "talks" "LDegreewall$Links;", Cond.methodLink RX4 65 yX4_givenAwayByTalk, Cond.instanceMethod yX4_givenAwayByTalk]
def wsX6_talk_r2 : List Cond := [Cond.selects RX4 yX4_givenAwayByTalk yX4_givenAwayByTalk, Cond.code yX4_givenAwayByTalk cX4_givenAwayByTalk 3 (some .int), Cond.fieldLink RX4 34 "Degreewall$Sums" "span" "LDegreewall$Span;", Cond.methodLink RX4 75 yX4_circle, Cond.instanceMethod yX4_circle, Cond.selects RX4 yX4_circle yX4_circle, Cond.code yX4_circle cX4_circle 2 (some .int), Cond.methodLink RX4 72 yX1_reach, Cond.instanceMethod yX1_reach, Cond.selects RX1 yX1_reach yX1_reach, Cond.initialized RX1, Cond.code yX1_reach cX1_reach 5 (some .int), Cond.methodLink RX1 15 yX1_widened, Cond.instanceMethod yX1_widened, Cond.selects RX1 yX1_widened yX1_widened, Cond.code yX1_widened cX1_widened 4 (some .int), Cond.fieldLink RX1 9 "Degreewall$Links" "near" "[I", Cond.static yX6_contains, Cond.code yX6_contains cX6_contains 2 (some .boolean), Cond.methodLink RX4 78 yX4_fillSpan, Cond.instanceMethod yX4_fillSpan, Cond.selects RX4 yX4_fillSpan yX4_fillSpan, Cond.code yX4_fillSpan cX4_fillSpan 3 none, Cond.fieldLink RX4 22 "Degreewall$Sums" "hearers" "[I"]
def wsX6_talk_r3 : List Cond := [Cond.methodLink RX4 106 yX3_forgetAll, Cond.instanceMethod yX3_forgetAll, Cond.selects RX3 yX3_forgetAll yX3_forgetAll, Cond.initialized RX3, Cond.code yX3_forgetAll cX3_forgetAll 1 none, Cond.fieldLink RX3 20 "Degreewall$Span" "used" "I", Cond.methodLink RX4 93 yX3_add, Cond.instanceMethod yX3_add, Cond.selects RX3 yX3_add yX3_add, Cond.code yX3_add cX3_add 4 none, Cond.fieldLink RX3 11 "Degreewall$Span" "rows" "[[I", Cond.fieldLink RX3 16 "Degreewall$Span" "rest" "[I", Cond.methodLink RX3 24 yX3_firstOfRest, Cond.instanceMethod yX3_firstOfRest, Cond.selects RX3 yX3_firstOfRest yX3_firstOfRest, Cond.code yX3_firstOfRest cX3_firstOfRest 3 (some .int), Cond.methodLink RX3 32 yX3_clearAt, Cond.instanceMethod yX3_clearAt, Cond.selects RX3 yX3_clearAt yX3_clearAt, Cond.code yX3_clearAt cX3_clearAt 7 none, Cond.methodLink RX4 96 yX3_alone, Cond.instanceMethod yX3_alone, Cond.selects RX3 yX3_alone yX3_alone, Cond.code yX3_alone cX3_alone 3 (some .int)]
def wsX6_talk_r4 : List Cond := [Cond.methodLink RX3 41 yX3_isAlone, Cond.static yX3_isAlone, Cond.code yX3_isAlone cX3_isAlone 3 (some .boolean), Cond.methodLink RX4 68 yX1_link, Cond.instanceMethod yX1_link, Cond.selects RX1 yX1_link yX1_link, Cond.code yX1_link cX1_link 3 none]
def wsX6_talk : List Cond := .code yX6_talk cX6_talk 3 (some .boolean) :: ((wsX6_talk_r1 ++ (wsX6_talk_r2 ++ (wsX6_talk_r3 ++ wsX6_talk_r4))) ++ wsX60 ++ wsX40 ++ wsX10 ++ wsX30 ++ (vx_atS RX6 59 "java/lang/IllegalArgumentException" ["java/lang/RuntimeException", "java/lang/Exception"]).filter goodWord ++ (vx_atS RX6 181 "java/lang/IndexOutOfBoundsException" ["java/lang/RuntimeException", "java/lang/Exception"]).filter goodWord)
def wsX6_ofSource_r1 : List Cond := [Cond.classLink RX6 55 "java/lang/IllegalArgumentException", Cond.initialized "java/lang/IllegalArgumentException", Cond.fieldLink RX6 10 "Degreewall" "kinship" "LDegreewall$Kinship;", Cond.fieldLink RX6 26 "Degreewall" "permits" "LDegreewall$Permits;", Cond.fieldLink RX6 19 "Degreewall" "tables" "LDegreewall$Tables;", Cond.methodLink RX6 51 yX6_needSource, Cond.instanceMethod yX6_needSource, Cond.selects RX6 yX6_needSource yX6_needSource, Cond.initialized RX6, Cond.code yX6_needSource cX6_needSource 2 none, Cond.classLink RX6 177 "java/lang/IndexOutOfBoundsException", Cond.initialized "java/lang/IndexOutOfBoundsException", Cond.methodLink RX6 322 yX0_knows, Cond.instanceMethod yX0_knows, Cond.selects RX0 yX0_knows yX0_knows, Cond.initialized RX0, Cond.code yX0_knows cX0_knows 2 (some .boolean), Cond.fieldLink RX0 26 "Degreewall$Kinship" "count" "I", Cond.methodLink RX6 160 yX0_kinOf, Cond.instanceMethod yX0_kinOf, Cond.selects RX0 yX0_kinOf yX0_kinOf, Cond.code yX0_kinOf cX0_kinOf 2 (some .int), Cond.fieldLink RX0 12 "Degreewall$Kinship" "kin" "LDegreewall$Links;", Cond.methodLink RX0 39 yX1_nextTo]
def wsX6_ofSource_r2 : List Cond := [Cond.instanceMethod yX1_nextTo, Cond.selects RX1 yX1_nextTo yX1_nextTo, Cond.initialized RX1, Cond.code yX1_nextTo cX1_nextTo 2 (some .int), Cond.fieldLink RX1 9 "Degreewall$Links" "near" "[I", Cond.methodLink RX6 163 yX0_within, Cond.instanceMethod yX0_within, Cond.selects RX0 yX0_within yX0_within, Cond.code yX0_within cX0_within 2 (some .int), Cond.fieldLink RX0 18 "Degreewall$Kinship" "barred" "[I", Cond.methodLink RX6 166 yX2_chained, Cond.instanceMethod yX2_chained, Cond.selects RX2 yX2_chained yX2_chained, Cond.initialized RX2, Cond.code yX2_chained cX2_chained 2 (some .int), Cond.fieldLink RX2 24 "Degreewall$Permits" "chains" "LDegreewall$Links;", Cond.methodLink RX2 45 yX2_inForce, Cond.instanceMethod yX2_inForce, Cond.selects RX2 yX2_inForce yX2_inForce, Cond.code yX2_inForce cX2_inForce 3 (some .int), Cond.fieldLink RX2 28 "Degreewall$Permits" "count" "I", Cond.methodLink RX2 64 yX2_isInForce, Cond.instanceMethod yX2_isInForce, Cond.selects RX2 yX2_isInForce yX2_isInForce]
def wsX6_ofSource_r3 : List Cond := [Cond.code yX2_isInForce cX2_isInForce 2 (some .boolean), Cond.fieldLink RX2 32 "Degreewall$Permits" "today" "I", Cond.fieldLink RX2 18 "Degreewall$Permits" "lastDay" "[I", Cond.fieldLink RX2 38 "Degreewall$Permits" "revoked" "I", Cond.static yX6_contains, Cond.code yX6_contains cX6_contains 2 (some .boolean), Cond.methodLink RX2 71 yX2_layOut, Cond.instanceMethod yX2_layOut, Cond.selects RX2 yX2_layOut yX2_layOut, Cond.code yX2_layOut cX2_layOut 3 none, Cond.fieldLink RX2 9 "Degreewall$Permits" "smaller" "[I", Cond.fieldLink RX2 15 "Degreewall$Permits" "greater" "[I", Cond.methodLink RX2 85 yX1_cutAll, Cond.instanceMethod yX1_cutAll, Cond.selects RX1 yX1_cutAll yX1_cutAll, Cond.code yX1_cutAll cX1_cutAll 2 none, Cond.methodLink RX2 88 yX1_link, Cond.instanceMethod yX1_link, Cond.selects RX1 yX1_link yX1_link, Cond.code yX1_link cX1_link 3 none, Cond.methodLink RX2 75 yX1_reach, Cond.instanceMethod yX1_reach, Cond.selects RX1 yX1_reach yX1_reach, Cond.code yX1_reach cX1_reach 5 (some .int)]
def wsX6_ofSource_r4 : List Cond := [Cond.methodLink RX1 15 yX1_widened, Cond.instanceMethod yX1_widened, Cond.selects RX1 yX1_widened yX1_widened, Cond.code yX1_widened cX1_widened 4 (some .int), Cond.methodLink RX6 169 yX5_countWith, Cond.instanceMethod yX5_countWith, Cond.selects RX5 yX5_countWith yX5_countWith, Cond.initialized RX5, Cond.code yX5_countWith cX5_countWith 4 (some .int), Cond.fieldLink RX5 15 "Degreewall$Tables" "count" "I", Cond.fieldLink RX5 19 "Degreewall$Tables" "struck" "I", Cond.fieldLink RX5 9 "Degreewall$Tables" "lines" "[I"]
def wsX6_ofSource : List Cond := .code yX6_ofSource cX6_ofSource 3 (some .int) :: ((wsX6_ofSource_r1 ++ (wsX6_ofSource_r2 ++ (wsX6_ofSource_r3 ++ wsX6_ofSource_r4))) ++ wsX60 ++ wsX00 ++ wsX10 ++ wsX20 ++ wsX50 ++ (vx_atS RX6 59 "java/lang/IllegalArgumentException" ["java/lang/RuntimeException", "java/lang/Exception"]).filter goodWord ++ (vx_atS RX6 181 "java/lang/IndexOutOfBoundsException" ["java/lang/RuntimeException", "java/lang/Exception"]).filter goodWord)
def wsX6_ofTable : List Cond := .code yX6_ofTable cX6_ofTable 3 (some .int) :: ([.classLink RX6 177 "java/lang/IndexOutOfBoundsException", .initialized "java/lang/IndexOutOfBoundsException", .classLink RX6 55 "java/lang/IllegalArgumentException", .initialized "java/lang/IllegalArgumentException", .fieldLink RX6 19 "Degreewall" "tables" "LDegreewall$Tables;", .methodLink RX6 174 yX5_knows, .instanceMethod yX5_knows, .selects RX5 yX5_knows yX5_knows, .initialized RX5, .code yX5_knows cX5_knows 2 (some .boolean), .fieldLink RX5 15 "Degreewall$Tables" "count" "I", .methodLink RX6 182 yX5_line, .instanceMethod yX5_line, .selects RX5 yX5_line yX5_line, .code yX5_line cX5_line 2 (some .int), .fieldLink RX5 9 "Degreewall$Tables" "lines" "[I", .methodLink RX6 185 yX5_isStruck, .instanceMethod yX5_isStruck, .selects RX5 yX5_isStruck yX5_isStruck, .code yX5_isStruck cX5_isStruck 2 (some .boolean), .fieldLink RX5 19 "Degreewall$Tables" "struck" "I", .static yX6_contains, .initialized RX6, .code yX6_contains cX6_contains 2 (some .boolean)] ++ wsX60 ++ wsX50 ++ (vx_atS RX6 181 "java/lang/IndexOutOfBoundsException" ["java/lang/RuntimeException", "java/lang/Exception"]).filter goodWord ++ (vx_atS RX6 59 "java/lang/IllegalArgumentException" ["java/lang/RuntimeException", "java/lang/Exception"]).filter goodWord)
def wsX6_house_r1 : List Cond := [Cond.classLink RX6 55 "java/lang/IllegalArgumentException", Cond.initialized "java/lang/IllegalArgumentException", Cond.fieldLink RX6 10 "Degreewall" "kinship" "LDegreewall$Kinship;", Cond.fieldLink RX6 19 "Degreewall" "tables" "LDegreewall$Tables;", Cond.fieldLink RX6 26 "Degreewall" "permits" "LDegreewall$Permits;", Cond.fieldLink RX6 33 "Degreewall" "sums" "LDegreewall$Sums;", Cond.fieldLink RX6 250 "Degreewall" "knocks" "I", Cond.methodLink RX6 37 yX0_count, Cond.instanceMethod yX0_count, Cond.selects RX0 yX0_count yX0_count, Cond.initialized RX0, Cond.code yX0_count cX0_count 1 (some .int), Cond.fieldLink RX0 26 "Degreewall$Kinship" "count" "I", Cond.methodLink RX6 81 yX5_count, Cond.instanceMethod yX5_count, Cond.selects RX5 yX5_count yX5_count, Cond.initialized RX5, Cond.code yX5_count cX5_count 1 (some .int), Cond.fieldLink RX5 15 "Degreewall$Tables" "count" "I", Cond.methodLink RX6 228 yX5_countStruck, Cond.instanceMethod yX5_countStruck, Cond.selects RX5 yX5_countStruck yX5_countStruck, Cond.code yX5_countStruck cX5_countStruck 1 (some .int), Cond.fieldLink RX5 19 "Degreewall$Tables" "struck" "I"]
def wsX6_house_r2 : List Cond := [Cond.methodLink RX5 26 yJ6_bitCount_0f7a4, Cond.static yJ6_bitCount_0f7a4, Cond.initialized RJ6, Cond.code yJ6_bitCount_0f7a4 cJ6_bitCount_0f7a4 1 (some .int), Cond.constant RJ6 265 (1431655765), Cond.constant RJ6 266 (858993459), Cond.constant RJ6 267 (252645135), Cond.methodLink RX6 231 yX0_barNow, Cond.instanceMethod yX0_barNow, Cond.selects RX0 yX0_barNow yX0_barNow, Cond.code yX0_barNow cX0_barNow 1 (some .int), Cond.fieldLink RX0 22 "Degreewall$Kinship" "bar" "I", Cond.methodLink RX6 234 yX2_countInForce, Cond.instanceMethod yX2_countInForce, Cond.selects RX2 yX2_countInForce yX2_countInForce, Cond.initialized RX2, Cond.code yX2_countInForce cX2_countInForce 1 (some .int), Cond.methodLink RX2 45 yX2_inForce, Cond.instanceMethod yX2_inForce, Cond.selects RX2 yX2_inForce yX2_inForce, Cond.code yX2_inForce cX2_inForce 3 (some .int), Cond.fieldLink RX2 28 "Degreewall$Permits" "count" "I", Cond.methodLink RX2 64 yX2_isInForce, Cond.instanceMethod yX2_isInForce]
def wsX6_house_r3 : List Cond := [Cond.selects RX2 yX2_isInForce yX2_isInForce, Cond.code yX2_isInForce cX2_isInForce 2 (some .boolean), Cond.fieldLink RX2 32 "Degreewall$Permits" "today" "I", Cond.fieldLink RX2 18 "Degreewall$Permits" "lastDay" "[I", Cond.fieldLink RX2 38 "Degreewall$Permits" "revoked" "I", Cond.static yX6_contains, Cond.initialized RX6, Cond.code yX6_contains cX6_contains 2 (some .boolean), Cond.methodLink RX2 49 yJ6_bitCount_0f7a4, Cond.methodLink RX6 237 yX2_countLeaks, Cond.instanceMethod yX2_countLeaks, Cond.selects RX2 yX2_countLeaks yX2_countLeaks, Cond.code yX2_countLeaks cX2_countLeaks 2 (some .int), Cond.methodLink RX2 81 yX2_leaksBy, Cond.instanceMethod yX2_leaksBy, Cond.selects RX2 yX2_leaksBy yX2_leaksBy, Cond.code yX2_leaksBy cX2_leaksBy 6 (some .int), Cond.fieldLink RX2 24 "Degreewall$Permits" "chains" "LDegreewall$Links;", Cond.methodLink RX2 71 yX2_layOut, Cond.instanceMethod yX2_layOut, Cond.selects RX2 yX2_layOut yX2_layOut, Cond.code yX2_layOut cX2_layOut 3 none, Cond.fieldLink RX2 9 "Degreewall$Permits" "smaller" "[I", Cond.fieldLink RX2 15 "Degreewall$Permits" "greater" "[I"]
def wsX6_house_r4 : List Cond := [Cond.methodLink RX2 85 yX1_cutAll, Cond.instanceMethod yX1_cutAll, Cond.selects RX1 yX1_cutAll yX1_cutAll, Cond.initialized RX1, Cond.code yX1_cutAll cX1_cutAll 2 none, Cond.fieldLink RX1 9 "Degreewall$Links" "near" "[I", Cond.methodLink RX2 88 yX1_link, Cond.instanceMethod yX1_link, Cond.selects RX1 yX1_link yX1_link, Cond.code yX1_link cX1_link 3 none, Cond.methodLink RX2 92 yX0_count, Cond.methodLink RX2 96 yX0_within, Cond.instanceMethod yX0_within, Cond.selects RX0 yX0_within yX0_within, Cond.code yX0_within cX0_within 2 (some .int), Cond.fieldLink RX0 18 "Degreewall$Kinship" "barred" "[I", Cond.methodLink RX2 75 yX1_reach, Cond.instanceMethod yX1_reach, Cond.selects RX1 yX1_reach yX1_reach, Cond.code yX1_reach cX1_reach 5 (some .int), Cond.methodLink RX1 15 yX1_widened, Cond.instanceMethod yX1_widened, Cond.selects RX1 yX1_widened yX1_widened, Cond.code yX1_widened cX1_widened 4 (some .int)]
def wsX6_house_r5 : List Cond := [Cond.methodLink RX6 202 yX2_repair, Cond.instanceMethod yX2_repair, Cond.selects RX2 yX2_repair yX2_repair, Cond.code yX2_repair cX2_repair 1 (some .int), Cond.fieldLink RX2 35 "Degreewall$Permits" "repair" "I", Cond.methodLink RX6 110 yX2_today, Cond.instanceMethod yX2_today, Cond.selects RX2 yX2_today yX2_today, Cond.code yX2_today cX2_today 1 (some .int), Cond.methodLink RX6 120 yX4_people, Cond.instanceMethod yX4_people, Cond.selects RX4 yX4_people yX4_people, Cond.initialized RX4, Cond.code yX4_people cX4_people 1 (some .int), Cond.fieldLink RX4 42 "Degreewall$Sums" "people" "I", Cond.methodLink RX6 128 yX4_askers, Cond.instanceMethod yX4_askers, Cond.selects RX4 yX4_askers yX4_askers, Cond.code yX4_askers cX4_askers 1 (some .int), Cond.fieldLink RX4 45 "Degreewall$Sums" "askers" "I", Cond.methodLink RX6 241 yX4_leastNow, Cond.instanceMethod yX4_leastNow, Cond.selects RX4 yX4_leastNow yX4_leastNow, Cond.code yX4_leastNow cX4_leastNow 1 (some .int)]
def wsX6_house_r6 : List Cond := [Cond.fieldLink RX4 38 "Degreewall$Sums" "least" "I", Cond.methodLink RX6 244 yX4_toldEver, Cond.instanceMethod yX4_toldEver, Cond.selects RX4 yX4_toldEver yX4_toldEver, Cond.code yX4_toldEver cX4_toldEver 1 (some .int), Cond.fieldLink RX4 25 "Degreewall$Sums" "told" "[I", Cond.methodLink RX4 85 yX4_total, Cond.static yX4_total, Cond.code yX4_total cX4_total 3 (some .int), Cond.methodLink RX6 247 yX4_refusedEver, Cond.instanceMethod yX4_refusedEver, Cond.selects RX4 yX4_refusedEver yX4_refusedEver, Cond.code yX4_refusedEver cX4_refusedEver 1 (some .int), Cond.fieldLink RX4 28 "Degreewall$Sums" "refused" "[I"]
def wsX6_house : List Cond := .code yX6_house cX6_house 2 (some .int) :: ((wsX6_house_r1 ++ (wsX6_house_r2 ++ (wsX6_house_r3 ++ (wsX6_house_r4 ++ (wsX6_house_r5 ++ wsX6_house_r6))))) ++ wsX60 ++ wsX00 ++ wsX50 ++ wsX20 ++ wsX10 ++ wsX40 ++ (vx_atS RX6 59 "java/lang/IllegalArgumentException" ["java/lang/RuntimeException", "java/lang/Exception"]).filter goodWord)
def wsX6_wouldJoin_r1 : List Cond := [Cond.fieldLink RX6 10 "Degreewall" "kinship" "LDegreewall$Kinship;", Cond.methodLink RX6 72 yX6_lineOf, Cond.instanceMethod yX6_lineOf, Cond.selects RX6 yX6_lineOf yX6_lineOf, Cond.initialized RX6, Cond.code yX6_lineOf cX6_lineOf 2 (some .int), Cond.classLink RX6 177 "java/lang/IndexOutOfBoundsException", Cond.initialized "java/lang/IndexOutOfBoundsException", Cond.fieldLink RX6 19 "Degreewall" "tables" "LDegreewall$Tables;", Cond.methodLink RX6 322 yX0_knows, Cond.instanceMethod yX0_knows, Cond.selects RX0 yX0_knows yX0_knows, Cond.initialized RX0, Cond.code yX0_knows cX0_knows 2 (some .boolean), Cond.fieldLink RX0 26 "Degreewall$Kinship" "count" "I", Cond.methodLink RX6 174 yX5_knows, Cond.instanceMethod yX5_knows, Cond.selects RX5 yX5_knows yX5_knows, Cond.initialized RX5, Cond.code yX5_knows cX5_knows 2 (some .boolean), Cond.fieldLink RX5 15 "Degreewall$Tables" "count" "I", Cond.methodLink RX6 185 yX5_isStruck, Cond.instanceMethod yX5_isStruck, Cond.selects RX5 yX5_isStruck yX5_isStruck]
def wsX6_wouldJoin_r2 : List Cond := [Cond.code yX5_isStruck cX5_isStruck 2 (some .boolean), Cond.fieldLink RX5 19 "Degreewall$Tables" "struck" "I", Cond.static yX6_contains, Cond.code yX6_contains cX6_contains 2 (some .boolean), Cond.methodLink RX6 182 yX5_line, Cond.instanceMethod yX5_line, Cond.selects RX5 yX5_line yX5_line, Cond.code yX5_line cX5_line 2 (some .int), Cond.fieldLink RX5 9 "Degreewall$Tables" "lines" "[I", Cond.methodLink RX6 76 yX0_firstPairWithin, Cond.instanceMethod yX0_firstPairWithin, Cond.selects RX0 yX0_firstPairWithin yX0_firstPairWithin, Cond.code yX0_firstPairWithin cX0_firstPairWithin 5 (some .int), Cond.fieldLink RX0 18 "Degreewall$Kinship" "barred" "[I"]
def wsX6_wouldJoin : List Cond := .code yX6_wouldJoin cX6_wouldJoin 3 (some .int) :: ((wsX6_wouldJoin_r1 ++ wsX6_wouldJoin_r2) ++ wsX60 ++ wsX00 ++ wsX50 ++ (vx_atS RX6 181 "java/lang/IndexOutOfBoundsException" ["java/lang/RuntimeException", "java/lang/Exception"]).filter goodWord)
def wsX6_isSound_r1 : List Cond := [Cond.fieldLink RX6 33 "Degreewall" "sums" "LDegreewall$Sums;", Cond.fieldLink RX6 19 "Degreewall" "tables" "LDegreewall$Tables;", Cond.fieldLink RX6 10 "Degreewall" "kinship" "LDegreewall$Kinship;", Cond.fieldLink RX6 26 "Degreewall" "permits" "LDegreewall$Permits;", Cond.methodLink RX6 279 yX4_areSound, Cond.instanceMethod yX4_areSound, Cond.selects RX4 yX4_areSound yX4_areSound, Cond.initialized RX4, Cond.code yX4_areSound cX4_areSound 2 (some .boolean), Cond.fieldLink RX4 45 "Degreewall$Sums" "askers" "I", Cond.fieldLink RX4 34 "Degreewall$Sums" "span" "LDegreewall$Span;", Cond.methodLink RX4 75 yX4_circle, Cond.instanceMethod yX4_circle, Cond.selects RX4 yX4_circle yX4_circle, Cond.code yX4_circle cX4_circle 2 (some .int), Cond.fieldLink RX4 18 "Degreewall$Sums" "talks" "LDegreewall$Links;", Cond.methodLink RX4 72 yX1_reach, Cond.instanceMethod yX1_reach, Cond.selects RX1 yX1_reach yX1_reach, Cond.initialized RX1, Cond.code yX1_reach cX1_reach 5 (some .int), Cond.methodLink RX1 15 yX1_widened, Cond.instanceMethod yX1_widened, Cond.selects RX1 yX1_widened yX1_widened]
def wsX6_isSound_r2 : List Cond := [Cond.code yX1_widened cX1_widened 4 (some .int), Cond.fieldLink RX1 9 "Degreewall$Links" "near" "[I", Cond.static yX6_contains, Cond.initialized RX6, Cond.code yX6_contains cX6_contains 2 (some .boolean), Cond.methodLink RX4 78 yX4_fillSpan, Cond.instanceMethod yX4_fillSpan, Cond.selects RX4 yX4_fillSpan yX4_fillSpan, Cond.code yX4_fillSpan cX4_fillSpan 3 none, Cond.fieldLink RX4 22 "Degreewall$Sums" "hearers" "[I", Cond.methodLink RX4 106 yX3_forgetAll, Cond.instanceMethod yX3_forgetAll, Cond.selects RX3 yX3_forgetAll yX3_forgetAll, Cond.initialized RX3, Cond.code yX3_forgetAll cX3_forgetAll 1 none, Cond.fieldLink RX3 20 "Degreewall$Span" "used" "I", Cond.methodLink RX4 93 yX3_add, Cond.instanceMethod yX3_add, Cond.selects RX3 yX3_add yX3_add, Cond.code yX3_add cX3_add 4 none, Cond.fieldLink RX3 11 "Degreewall$Span" "rows" "[[I", Cond.fieldLink RX3 16 "Degreewall$Span" "rest" "[I", Cond.methodLink RX3 24 yX3_firstOfRest, Cond.instanceMethod yX3_firstOfRest]
def wsX6_isSound_r3 : List Cond := [Cond.selects RX3 yX3_firstOfRest yX3_firstOfRest, Cond.code yX3_firstOfRest cX3_firstOfRest 3 (some .int), Cond.methodLink RX3 32 yX3_clearAt, Cond.instanceMethod yX3_clearAt, Cond.selects RX3 yX3_clearAt yX3_clearAt, Cond.code yX3_clearAt cX3_clearAt 7 none, Cond.methodLink RX4 96 yX3_alone, Cond.instanceMethod yX3_alone, Cond.selects RX3 yX3_alone yX3_alone, Cond.code yX3_alone cX3_alone 3 (some .int), Cond.methodLink RX3 41 yX3_isAlone, Cond.static yX3_isAlone, Cond.code yX3_isAlone cX3_isAlone 3 (some .boolean), Cond.methodLink RX4 99 yX4_spanHoldsAllTold, Cond.instanceMethod yX4_spanHoldsAllTold, Cond.selects RX4 yX4_spanHoldsAllTold yX4_spanHoldsAllTold, Cond.code yX4_spanHoldsAllTold cX4_spanHoldsAllTold 3 (some .boolean), Cond.methodLink RX4 89 yX3_holds, Cond.instanceMethod yX3_holds, Cond.selects RX3 yX3_holds yX3_holds, Cond.code yX3_holds cX3_holds 2 (some .boolean), Cond.methodLink RX6 283 yX5_areSound, Cond.instanceMethod yX5_areSound, Cond.selects RX5 yX5_areSound yX5_areSound]
def wsX6_isSound_r4 : List Cond := [Cond.initialized RX5, Cond.code yX5_areSound cX5_areSound 3 (some .boolean), Cond.fieldLink RX5 15 "Degreewall$Tables" "count" "I", Cond.fieldLink RX5 19 "Degreewall$Tables" "struck" "I", Cond.fieldLink RX5 9 "Degreewall$Tables" "lines" "[I", Cond.methodLink RX5 36 yX0_firstPairWithin, Cond.instanceMethod yX0_firstPairWithin, Cond.selects RX0 yX0_firstPairWithin yX0_firstPairWithin, Cond.initialized RX0, Cond.code yX0_firstPairWithin cX0_firstPairWithin 5 (some .int), Cond.fieldLink RX0 26 "Degreewall$Kinship" "count" "I", Cond.fieldLink RX0 18 "Degreewall$Kinship" "barred" "[I", Cond.methodLink RX6 286 yX2_areSound, Cond.instanceMethod yX2_areSound, Cond.selects RX2 yX2_areSound yX2_areSound, Cond.initialized RX2, Cond.code yX2_areSound cX2_areSound 2 (some .boolean), Cond.fieldLink RX2 35 "Degreewall$Permits" "repair" "I", Cond.methodLink RX2 45 yX2_inForce, Cond.instanceMethod yX2_inForce, Cond.selects RX2 yX2_inForce yX2_inForce, Cond.code yX2_inForce cX2_inForce 3 (some .int), Cond.fieldLink RX2 28 "Degreewall$Permits" "count" "I", Cond.methodLink RX2 64 yX2_isInForce]
def wsX6_isSound_r5 : List Cond := [Cond.instanceMethod yX2_isInForce, Cond.selects RX2 yX2_isInForce yX2_isInForce, Cond.code yX2_isInForce cX2_isInForce 2 (some .boolean), Cond.fieldLink RX2 32 "Degreewall$Permits" "today" "I", Cond.fieldLink RX2 18 "Degreewall$Permits" "lastDay" "[I", Cond.fieldLink RX2 38 "Degreewall$Permits" "revoked" "I", Cond.methodLink RX2 81 yX2_leaksBy, Cond.instanceMethod yX2_leaksBy, Cond.selects RX2 yX2_leaksBy yX2_leaksBy, Cond.code yX2_leaksBy cX2_leaksBy 6 (some .int), Cond.fieldLink RX2 24 "Degreewall$Permits" "chains" "LDegreewall$Links;", Cond.methodLink RX2 71 yX2_layOut, Cond.instanceMethod yX2_layOut, Cond.selects RX2 yX2_layOut yX2_layOut, Cond.code yX2_layOut cX2_layOut 3 none, Cond.fieldLink RX2 9 "Degreewall$Permits" "smaller" "[I", Cond.fieldLink RX2 15 "Degreewall$Permits" "greater" "[I", Cond.methodLink RX2 85 yX1_cutAll, Cond.instanceMethod yX1_cutAll, Cond.selects RX1 yX1_cutAll yX1_cutAll, Cond.code yX1_cutAll cX1_cutAll 2 none, Cond.methodLink RX2 88 yX1_link, Cond.instanceMethod yX1_link, Cond.selects RX1 yX1_link yX1_link]
def wsX6_isSound_r6 : List Cond := [Cond.code yX1_link cX1_link 3 none, Cond.methodLink RX2 92 yX0_count, Cond.instanceMethod yX0_count, Cond.selects RX0 yX0_count yX0_count, Cond.code yX0_count cX0_count 1 (some .int), Cond.methodLink RX2 96 yX0_within, Cond.instanceMethod yX0_within, Cond.selects RX0 yX0_within yX0_within, Cond.code yX0_within cX0_within 2 (some .int), Cond.methodLink RX2 75 yX1_reach, Cond.methodLink RX2 49 yJ6_bitCount_0f7a4, Cond.static yJ6_bitCount_0f7a4, Cond.initialized RJ6, Cond.code yJ6_bitCount_0f7a4 cJ6_bitCount_0f7a4 1 (some .int), Cond.constant RJ6 265 (1431655765), Cond.constant RJ6 266 (858993459), Cond.constant RJ6 267 (252645135)]
def wsX6_isSound : List Cond := .code yX6_isSound cX6_isSound 1 (some .boolean) :: ((wsX6_isSound_r1 ++ (wsX6_isSound_r2 ++ (wsX6_isSound_r3 ++ (wsX6_isSound_r4 ++ (wsX6_isSound_r5 ++ wsX6_isSound_r6))))) ++ wsX60 ++ wsX40 ++ wsX10 ++ wsX30 ++ wsX50 ++ wsX00 ++ wsX20)
def wsJxd2413_init_da8c8 : List Cond := .code yJxd2413_init_da8c8 cJxd2413_init_da8c8 1 none :: ([.methodLink RJxd2413 1 objectInit, .instanceMethod objectInit, .code objectInit ⟨#[0xb1]⟩ 1 none])
def wsJ6_init_d00df : List Cond := .code yJ6_init_d00df cJ6_init_d00df 2 none :: ([.fieldLink RJ6 205 "java/lang/Integer" "value" "I", .methodLink RJ6 202 yJxd2413_init_da8c8, .instanceMethod yJxd2413_init_da8c8, .initialized RJxd2413, .code yJxd2413_init_da8c8 cJxd2413_init_da8c8 1 none, .methodLink RJxd2413 1 objectInit, .instanceMethod objectInit, .code objectInit ⟨#[0xb1]⟩ 1 none] ++ wsJ60)
def wsJ6_valueOf_2dffe : List Cond := .code yJ6_valueOf_2dffe cJ6_valueOf_2dffe 1 (some (.object "java/lang/Integer")) :: ([.fieldLink RJ6 191 "java/lang/Integer$IntegerCache" "high" "I", .fieldLink RJ6 195 "java/lang/Integer$IntegerCache" "cache" "[Ljava/lang/Integer;", .classLink RJ6 1 RJ6, .instantiable RJ6 1, .initialized RJ6, .methodLink RJ6 199 yJ6_init_d00df, .instanceMethod yJ6_init_d00df, .code yJ6_init_d00df cJ6_init_d00df 2 none, .fieldLink RJ6 205 "java/lang/Integer" "value" "I", .methodLink RJ6 202 yJxd2413_init_da8c8, .instanceMethod yJxd2413_init_da8c8, .initialized RJxd2413, .code yJxd2413_init_da8c8 cJxd2413_init_da8c8 1 none, .methodLink RJxd2413 1 objectInit, .instanceMethod objectInit, .code objectInit ⟨#[0xb1]⟩ 1 none] ++ wsJ60)
def wsJ6_intValue_8abf5 : List Cond := .code yJ6_intValue_8abf5 cJ6_intValue_8abf5 1 (some .int) :: ([.fieldLink RJ6 205 "java/lang/Integer" "value" "I"] ++ wsJ60)
def wsJ9_floorMod_f86c9 : List Cond := .code yJ9_floorMod_f86c9 cJ9_floorMod_f86c9 6 (some .long) :: ([])
def wsJ9_max_7cf53 : List Cond := .code yJ9_max_7cf53 cJ9_max_7cf53 2 (some .int) :: ([])
def wsJ9_min_7cf53 : List Cond := .code yJ9_min_7cf53 cJ9_min_7cf53 2 (some .int) :: ([])
def wsJxa1e45_init_da8c8 : List Cond := .code yJxa1e45_init_da8c8 cJxa1e45_init_da8c8 1 none :: ([.methodLink RJxa1e45 1 objectInit, .instanceMethod objectInit, .code objectInit ⟨#[0xb1]⟩ 1 none])
def wsJxc12de_init_da8c8 : List Cond := .code yJxc12de_init_da8c8 cJxc12de_init_da8c8 1 none :: ([.fieldLink RJxc12de 7 "java/util/AbstractList" "modCount" "I", .methodLink RJxc12de 1 yJxa1e45_init_da8c8, .instanceMethod yJxa1e45_init_da8c8, .initialized RJxa1e45, .code yJxa1e45_init_da8c8 cJxa1e45_init_da8c8 1 none, .methodLink RJxa1e45 1 objectInit, .instanceMethod objectInit, .code objectInit ⟨#[0xb1]⟩ 1 none] ++ wsJx4a65c0)
def wsJx35411_init_45d68 : List Cond := .code yJx35411_init_45d68 cJx35411_init_45d68 2 none :: ([.fieldLink RJx35411 1 "java/util/ArrayList$Itr" "this$0" "Ljava/util/ArrayList;", .methodLink RJx35411 7 objectInit, .instanceMethod objectInit, .code objectInit ⟨#[0xb1]⟩ 1 none, .fieldLink RJx35411 13 "java/util/ArrayList$Itr" "lastRet" "I", .fieldLink RJx35411 17 "java/util/ArrayList" "modCount" "I", .sameField "java/util/ArrayList" "java/util/AbstractList" "modCount" "I", .fieldLink RJx35411 22 "java/util/ArrayList$Itr" "expectedModCount" "I"] ++ wsJx354110 ++ wsJx4a65c0)
def wsJx35411_hasNext_aae02 : List Cond := .code yJx35411_hasNext_aae02 cJx35411_hasNext_aae02 1 (some .boolean) :: ([.fieldLink RJx35411 25 "java/util/ArrayList$Itr" "cursor" "I", .fieldLink RJx35411 1 "java/util/ArrayList$Itr" "this$0" "Ljava/util/ArrayList;"] ++ wsJx354110 ++ wsJx4a65c0)
def wsJx35411_checkForComodification_da8c8 : List Cond := .code yJx35411_checkForComodification_da8c8 cJx35411_checkForComodification_da8c8 1 none :: ([.fieldLink RJx35411 1 "java/util/ArrayList$Itr" "this$0" "Ljava/util/ArrayList;", .fieldLink RJx35411 17 "java/util/ArrayList" "modCount" "I", .sameField "java/util/ArrayList" "java/util/AbstractList" "modCount" "I", .fieldLink RJx35411 22 "java/util/ArrayList$Itr" "expectedModCount" "I"] ++ wsJx354110 ++ wsJx4a65c0)
def wsJx35411_next_0502b : List Cond := .code yJx35411_next_0502b cJx35411_next_0502b 3 (some (.object "java/lang/Object")) :: ([.fieldLink RJx35411 25 "java/util/ArrayList$Itr" "cursor" "I", .fieldLink RJx35411 1 "java/util/ArrayList$Itr" "this$0" "Ljava/util/ArrayList;", .fieldLink RJx35411 37 "java/util/ArrayList" "elementData" "[Ljava/lang/Object;", .fieldLink RJx35411 13 "java/util/ArrayList$Itr" "lastRet" "I", .methodLink RJx35411 31 yJx35411_checkForComodification_da8c8, .instanceMethod yJx35411_checkForComodification_da8c8, .selects RJx35411 yJx35411_checkForComodification_da8c8 yJx35411_checkForComodification_da8c8, .initialized RJx35411, .code yJx35411_checkForComodification_da8c8 cJx35411_checkForComodification_da8c8 1 none, .fieldLink RJx35411 17 "java/util/ArrayList" "modCount" "I", .sameField "java/util/ArrayList" "java/util/AbstractList" "modCount" "I", .fieldLink RJx35411 22 "java/util/ArrayList$Itr" "expectedModCount" "I"] ++ wsJx354110 ++ wsJx4a65c0)
def wsJx4a65c_init_da8c8 : List Cond := .code yJx4a65c_init_da8c8 cJx4a65c_init_da8c8 1 none :: ([.fieldLink RJx4a65c 39 "java/util/ArrayList" "DEFAULTCAPACITY_EMPTY_ELEMENTDATA" "[Ljava/lang/Object;", .fieldLink RJx4a65c 9 "java/util/ArrayList" "elementData" "[Ljava/lang/Object;", .methodLink RJx4a65c 1 yJxc12de_init_da8c8, .instanceMethod yJxc12de_init_da8c8, .initialized RJxc12de, .code yJxc12de_init_da8c8 cJxc12de_init_da8c8 1 none, .fieldLink RJxc12de 7 "java/util/AbstractList" "modCount" "I", .methodLink RJxc12de 1 yJxa1e45_init_da8c8, .instanceMethod yJxa1e45_init_da8c8, .initialized RJxa1e45, .code yJxa1e45_init_da8c8 cJxa1e45_init_da8c8 1 none, .methodLink RJxa1e45 1 objectInit, .instanceMethod objectInit, .code objectInit ⟨#[0xb1]⟩ 1 none] ++ wsJx4a65c0)
def wsJ8_hugeLength_7cf53 : List Cond := .code yJ8_hugeLength_7cf53 cJ8_hugeLength_7cf53 3 (some .int) :: ([.constant RJ8 200 (2147483639)])
def wsJ8_newLength_cabcc : List Cond := .code yJ8_newLength_cabcc cJ8_newLength_cabcc 4 (some .int) :: ([.methodLink RJ8 194 Lib.Math.max.name, .static Lib.Math.max.name, .initialized "java/lang/Math", .code Lib.Math.max.name Lib.Math.max.code 2 (some .int), .constant RJ8 200 (2147483639), .methodLink RJ8 201 yJ8_hugeLength_7cf53, .static yJ8_hugeLength_7cf53, .initialized RJ8, .code yJ8_hugeLength_7cf53 cJ8_hugeLength_7cf53 3 (some .int)])
def wsJ7_copyOf_6403c : List Cond := .code yJ7_copyOf_6403c cJ7_copyOf_6403c 4 (some (.array (.object "java/lang/Object"))) :: ([.classLink RJ7 110 "[Ljava/lang/Object;", .classLink RJ7 2 "java/lang/Object", .methodLink RJ7 304 Lib.Math.min.name, .static Lib.Math.min.name, .initialized "java/lang/Math", .code Lib.Math.min.name Lib.Math.min.code 2 (some .int), .methodLink RJ7 150 arraycopyName, .native arraycopyName, .static arraycopyName, .initialized "java/lang/System"])
def wsJ7_copyOf_1904c : List Cond := .code yJ7_copyOf_1904c cJ7_copyOf_1904c 2 (some (.array (.object "java/lang/Object"))) :: ([.methodLink RJ7 86 ⟨"java/lang/Object", "getClass", "()Ljava/lang/Class;"⟩, .selects "[Ljava/lang/Object;" ⟨"java/lang/Object", "getClass", "()Ljava/lang/Class;"⟩ ⟨"java/lang/Object", "getClass", "()Ljava/lang/Class;"⟩, .instanceMethod ⟨"java/lang/Object", "getClass", "()Ljava/lang/Class;"⟩, .native ⟨"java/lang/Object", "getClass", "()Ljava/lang/Class;"⟩, .methodLink RJ7 300 yJ7_copyOf_6403c, .static yJ7_copyOf_6403c, .initialized RJ7, .code yJ7_copyOf_6403c cJ7_copyOf_6403c 4 (some (.array (.object "java/lang/Object"))), .classLink RJ7 110 "[Ljava/lang/Object;", .classLink RJ7 2 "java/lang/Object", .methodLink RJ7 304 Lib.Math.min.name, .static Lib.Math.min.name, .initialized "java/lang/Math", .code Lib.Math.min.name Lib.Math.min.code 2 (some .int), .methodLink RJ7 150 arraycopyName, .native arraycopyName, .static arraycopyName, .initialized "java/lang/System"])
def wsJx4a65c_grow_92f84_r1 : List Cond := [Cond.fieldLink RJx4a65c 9 "java/util/ArrayList" "elementData" "[Ljava/lang/Object;", Cond.fieldLink RJx4a65c 39 "java/util/ArrayList" "DEFAULTCAPACITY_EMPTY_ELEMENTDATA" "[Ljava/lang/Object;", Cond.methodLink RJx4a65c 79 Lib.Math.max.name, Cond.static Lib.Math.max.name, Cond.initialized "java/lang/Math", Cond.code Lib.Math.max.name Lib.Math.max.code 2 (some .int), Cond.classLink RJx4a65c 7 "java/lang/Object", Cond.methodLink RJx4a65c 73 yJ8_newLength_cabcc, Cond.static yJ8_newLength_cabcc, Cond.initialized RJ8, Cond.code yJ8_newLength_cabcc cJ8_newLength_cabcc 4 (some .int), Cond.methodLink RJ8 194 Lib.Math.max.name, Cond.constant RJ8 200 (2147483639), Cond.methodLink RJ8 201 yJ8_hugeLength_7cf53, Cond.static yJ8_hugeLength_7cf53, Cond.code yJ8_hugeLength_7cf53 cJ8_hugeLength_7cf53 3 (some .int), Cond.methodLink RJx4a65c 66 yJ7_copyOf_1904c, Cond.static yJ7_copyOf_1904c, Cond.initialized RJ7, Cond.code yJ7_copyOf_1904c cJ7_copyOf_1904c 2 (some (.array (.object "java/lang/Object"))), Cond.methodLink RJ7 86 ⟨"java/lang/Object", "getClass", "()Ljava/lang/Class;"⟩, Cond.selects "[Ljava/lang/Object;" ⟨"java/lang/Object", "getClass", "()Ljava/lang/Class;"⟩ ⟨"java/lang/Object", "getClass", "()Ljava/lang/Class;"⟩, Cond.instanceMethod ⟨"java/lang/Object", "getClass", "()Ljava/lang/Class;"⟩, Cond.native ⟨"java/lang/Object", "getClass", "()Ljava/lang/Class;"⟩]
def wsJx4a65c_grow_92f84_r2 : List Cond := [Cond.methodLink RJ7 300 yJ7_copyOf_6403c, Cond.static yJ7_copyOf_6403c, Cond.code yJ7_copyOf_6403c cJ7_copyOf_6403c 4 (some (.array (.object "java/lang/Object"))), Cond.classLink RJ7 110 "[Ljava/lang/Object;", Cond.classLink RJ7 2 "java/lang/Object", Cond.methodLink RJ7 304 Lib.Math.min.name, Cond.static Lib.Math.min.name, Cond.code Lib.Math.min.name Lib.Math.min.code 2 (some .int), Cond.methodLink RJ7 150 arraycopyName, Cond.native arraycopyName, Cond.static arraycopyName, Cond.initialized "java/lang/System"]
def wsJx4a65c_grow_92f84 : List Cond := .code yJx4a65c_grow_92f84 cJx4a65c_grow_92f84 4 (some (.array (.object "java/lang/Object"))) :: ((wsJx4a65c_grow_92f84_r1 ++ wsJx4a65c_grow_92f84_r2) ++ wsJx4a65c0)
def wsJx4a65c_grow_d5877_r1 : List Cond := [Cond.fieldLink RJx4a65c 48 "java/util/ArrayList" "size" "I", Cond.methodLink RJx4a65c 69 yJx4a65c_grow_92f84, Cond.instanceMethod yJx4a65c_grow_92f84, Cond.selects RJx4a65c yJx4a65c_grow_92f84 yJx4a65c_grow_92f84, Cond.initialized RJx4a65c, Cond.code yJx4a65c_grow_92f84 cJx4a65c_grow_92f84 4 (some (.array (.object "java/lang/Object"))), Cond.fieldLink RJx4a65c 9 "java/util/ArrayList" "elementData" "[Ljava/lang/Object;", Cond.fieldLink RJx4a65c 39 "java/util/ArrayList" "DEFAULTCAPACITY_EMPTY_ELEMENTDATA" "[Ljava/lang/Object;", Cond.methodLink RJx4a65c 79 Lib.Math.max.name, Cond.static Lib.Math.max.name, Cond.initialized "java/lang/Math", Cond.code Lib.Math.max.name Lib.Math.max.code 2 (some .int), Cond.classLink RJx4a65c 7 "java/lang/Object", Cond.methodLink RJx4a65c 73 yJ8_newLength_cabcc, Cond.static yJ8_newLength_cabcc, Cond.initialized RJ8, Cond.code yJ8_newLength_cabcc cJ8_newLength_cabcc 4 (some .int), Cond.methodLink RJ8 194 Lib.Math.max.name, Cond.constant RJ8 200 (2147483639), Cond.methodLink RJ8 201 yJ8_hugeLength_7cf53, Cond.static yJ8_hugeLength_7cf53, Cond.code yJ8_hugeLength_7cf53 cJ8_hugeLength_7cf53 3 (some .int), Cond.methodLink RJx4a65c 66 yJ7_copyOf_1904c, Cond.static yJ7_copyOf_1904c]
def wsJx4a65c_grow_d5877_r2 : List Cond := [Cond.initialized RJ7, Cond.code yJ7_copyOf_1904c cJ7_copyOf_1904c 2 (some (.array (.object "java/lang/Object"))), Cond.methodLink RJ7 86 ⟨"java/lang/Object", "getClass", "()Ljava/lang/Class;"⟩, Cond.selects "[Ljava/lang/Object;" ⟨"java/lang/Object", "getClass", "()Ljava/lang/Class;"⟩ ⟨"java/lang/Object", "getClass", "()Ljava/lang/Class;"⟩, Cond.instanceMethod ⟨"java/lang/Object", "getClass", "()Ljava/lang/Class;"⟩, Cond.native ⟨"java/lang/Object", "getClass", "()Ljava/lang/Class;"⟩, Cond.methodLink RJ7 300 yJ7_copyOf_6403c, Cond.static yJ7_copyOf_6403c, Cond.code yJ7_copyOf_6403c cJ7_copyOf_6403c 4 (some (.array (.object "java/lang/Object"))), Cond.classLink RJ7 110 "[Ljava/lang/Object;", Cond.classLink RJ7 2 "java/lang/Object", Cond.methodLink RJ7 304 Lib.Math.min.name, Cond.static Lib.Math.min.name, Cond.code Lib.Math.min.name Lib.Math.min.code 2 (some .int), Cond.methodLink RJ7 150 arraycopyName, Cond.native arraycopyName, Cond.static arraycopyName, Cond.initialized "java/lang/System"]
def wsJx4a65c_grow_d5877 : List Cond := .code yJx4a65c_grow_d5877 cJx4a65c_grow_d5877 1 (some (.array (.object "java/lang/Object"))) :: ((wsJx4a65c_grow_d5877_r1 ++ wsJx4a65c_grow_d5877_r2) ++ wsJx4a65c0)
def wsJx4a65c_size_8abf5 : List Cond := .code yJx4a65c_size_8abf5 cJx4a65c_size_8abf5 1 (some .int) :: ([.fieldLink RJx4a65c 48 "java/util/ArrayList" "size" "I"] ++ wsJx4a65c0)
def wsJx4a65c_elementData_915e3 : List Cond := .code yJx4a65c_elementData_915e3 cJx4a65c_elementData_915e3 2 (some (.object "java/lang/Object")) :: ([.fieldLink RJx4a65c 9 "java/util/ArrayList" "elementData" "[Ljava/lang/Object;"] ++ wsJx4a65c0)
def wsJ3_checkIndex_8e157 : List Cond := .code yJ3_checkIndex_8e157 cJ3_checkIndex_8e157 3 (some .int) :: ([])
def wsJ15_checkIndex_7cf53 : List Cond := .code yJ15_checkIndex_7cf53 cJ15_checkIndex_7cf53 2 (some .int) :: ([.methodLink RJ15 105 yJ3_checkIndex_8e157, .static yJ3_checkIndex_8e157, .initialized RJ3, .code yJ3_checkIndex_8e157 cJ3_checkIndex_8e157 3 (some .int)])
def wsJx4a65c_get_915e3 : List Cond := .code yJx4a65c_get_915e3 cJx4a65c_get_915e3 2 (some (.object "java/lang/Object")) :: ([.fieldLink RJx4a65c 48 "java/util/ArrayList" "size" "I", .methodLink RJx4a65c 118 yJ15_checkIndex_7cf53, .static yJ15_checkIndex_7cf53, .initialized RJ15, .code yJ15_checkIndex_7cf53 cJ15_checkIndex_7cf53 2 (some .int), .methodLink RJ15 105 yJ3_checkIndex_8e157, .static yJ3_checkIndex_8e157, .initialized RJ3, .code yJ3_checkIndex_8e157 cJ3_checkIndex_8e157 3 (some .int), .methodLink RJx4a65c 123 yJx4a65c_elementData_915e3, .instanceMethod yJx4a65c_elementData_915e3, .selects RJx4a65c yJx4a65c_elementData_915e3 yJx4a65c_elementData_915e3, .initialized RJx4a65c, .code yJx4a65c_elementData_915e3 cJx4a65c_elementData_915e3 2 (some (.object "java/lang/Object")), .fieldLink RJx4a65c 9 "java/util/ArrayList" "elementData" "[Ljava/lang/Object;"] ++ wsJx4a65c0)
def wsJx4a65c_add_72be8_r1 : List Cond := [Cond.fieldLink RJx4a65c 48 "java/util/ArrayList" "size" "I", Cond.methodLink RJx4a65c 129 yJx4a65c_grow_d5877, Cond.instanceMethod yJx4a65c_grow_d5877, Cond.selects RJx4a65c yJx4a65c_grow_d5877 yJx4a65c_grow_d5877, Cond.initialized RJx4a65c, Cond.code yJx4a65c_grow_d5877 cJx4a65c_grow_d5877 1 (some (.array (.object "java/lang/Object"))), Cond.methodLink RJx4a65c 69 yJx4a65c_grow_92f84, Cond.instanceMethod yJx4a65c_grow_92f84, Cond.selects RJx4a65c yJx4a65c_grow_92f84 yJx4a65c_grow_92f84, Cond.code yJx4a65c_grow_92f84 cJx4a65c_grow_92f84 4 (some (.array (.object "java/lang/Object"))), Cond.fieldLink RJx4a65c 9 "java/util/ArrayList" "elementData" "[Ljava/lang/Object;", Cond.fieldLink RJx4a65c 39 "java/util/ArrayList" "DEFAULTCAPACITY_EMPTY_ELEMENTDATA" "[Ljava/lang/Object;", Cond.methodLink RJx4a65c 79 Lib.Math.max.name, Cond.static Lib.Math.max.name, Cond.initialized "java/lang/Math", Cond.code Lib.Math.max.name Lib.Math.max.code 2 (some .int), Cond.classLink RJx4a65c 7 "java/lang/Object", Cond.methodLink RJx4a65c 73 yJ8_newLength_cabcc, Cond.static yJ8_newLength_cabcc, Cond.initialized RJ8, Cond.code yJ8_newLength_cabcc cJ8_newLength_cabcc 4 (some .int), Cond.methodLink RJ8 194 Lib.Math.max.name, Cond.constant RJ8 200 (2147483639), Cond.methodLink RJ8 201 yJ8_hugeLength_7cf53]
def wsJx4a65c_add_72be8_r2 : List Cond := [Cond.static yJ8_hugeLength_7cf53, Cond.code yJ8_hugeLength_7cf53 cJ8_hugeLength_7cf53 3 (some .int), Cond.methodLink RJx4a65c 66 yJ7_copyOf_1904c, Cond.static yJ7_copyOf_1904c, Cond.initialized RJ7, Cond.code yJ7_copyOf_1904c cJ7_copyOf_1904c 2 (some (.array (.object "java/lang/Object"))), Cond.methodLink RJ7 86 ⟨"java/lang/Object", "getClass", "()Ljava/lang/Class;"⟩, Cond.selects "[Ljava/lang/Object;" ⟨"java/lang/Object", "getClass", "()Ljava/lang/Class;"⟩ ⟨"java/lang/Object", "getClass", "()Ljava/lang/Class;"⟩, Cond.instanceMethod ⟨"java/lang/Object", "getClass", "()Ljava/lang/Class;"⟩, Cond.native ⟨"java/lang/Object", "getClass", "()Ljava/lang/Class;"⟩, Cond.methodLink RJ7 300 yJ7_copyOf_6403c, Cond.static yJ7_copyOf_6403c, Cond.code yJ7_copyOf_6403c cJ7_copyOf_6403c 4 (some (.array (.object "java/lang/Object"))), Cond.classLink RJ7 110 "[Ljava/lang/Object;", Cond.classLink RJ7 2 "java/lang/Object", Cond.methodLink RJ7 304 Lib.Math.min.name, Cond.static Lib.Math.min.name, Cond.code Lib.Math.min.name Lib.Math.min.code 2 (some .int), Cond.methodLink RJ7 150 arraycopyName, Cond.native arraycopyName, Cond.static arraycopyName, Cond.initialized "java/lang/System"]
def wsJx4a65c_add_72be8 : List Cond := .code yJx4a65c_add_72be8 cJx4a65c_add_72be8 4 none :: ((wsJx4a65c_add_72be8_r1 ++ wsJx4a65c_add_72be8_r2) ++ wsJx4a65c0)
def wsJx4a65c_add_9ea2d_r1 : List Cond := [Cond.fieldLink RJx4a65c 63 "java/util/ArrayList" "modCount" "I", Cond.sameField "java/util/ArrayList" "java/util/AbstractList" "modCount" "I", Cond.fieldLink RJx4a65c 9 "java/util/ArrayList" "elementData" "[Ljava/lang/Object;", Cond.fieldLink RJx4a65c 48 "java/util/ArrayList" "size" "I", Cond.methodLink RJx4a65c 131 yJx4a65c_add_72be8, Cond.instanceMethod yJx4a65c_add_72be8, Cond.selects RJx4a65c yJx4a65c_add_72be8 yJx4a65c_add_72be8, Cond.initialized RJx4a65c, Cond.code yJx4a65c_add_72be8 cJx4a65c_add_72be8 4 none, Cond.methodLink RJx4a65c 129 yJx4a65c_grow_d5877, Cond.instanceMethod yJx4a65c_grow_d5877, Cond.selects RJx4a65c yJx4a65c_grow_d5877 yJx4a65c_grow_d5877, Cond.code yJx4a65c_grow_d5877 cJx4a65c_grow_d5877 1 (some (.array (.object "java/lang/Object"))), Cond.methodLink RJx4a65c 69 yJx4a65c_grow_92f84, Cond.instanceMethod yJx4a65c_grow_92f84, Cond.selects RJx4a65c yJx4a65c_grow_92f84 yJx4a65c_grow_92f84, Cond.code yJx4a65c_grow_92f84 cJx4a65c_grow_92f84 4 (some (.array (.object "java/lang/Object"))), Cond.fieldLink RJx4a65c 39 "java/util/ArrayList" "DEFAULTCAPACITY_EMPTY_ELEMENTDATA" "[Ljava/lang/Object;", Cond.methodLink RJx4a65c 79 Lib.Math.max.name, Cond.static Lib.Math.max.name, Cond.initialized "java/lang/Math", Cond.code Lib.Math.max.name Lib.Math.max.code 2 (some .int), Cond.classLink RJx4a65c 7 "java/lang/Object", Cond.methodLink RJx4a65c 73 yJ8_newLength_cabcc]
def wsJx4a65c_add_9ea2d_r2 : List Cond := [Cond.static yJ8_newLength_cabcc, Cond.initialized RJ8, Cond.code yJ8_newLength_cabcc cJ8_newLength_cabcc 4 (some .int), Cond.methodLink RJ8 194 Lib.Math.max.name, Cond.constant RJ8 200 (2147483639), Cond.methodLink RJ8 201 yJ8_hugeLength_7cf53, Cond.static yJ8_hugeLength_7cf53, Cond.code yJ8_hugeLength_7cf53 cJ8_hugeLength_7cf53 3 (some .int), Cond.methodLink RJx4a65c 66 yJ7_copyOf_1904c, Cond.static yJ7_copyOf_1904c, Cond.initialized RJ7, Cond.code yJ7_copyOf_1904c cJ7_copyOf_1904c 2 (some (.array (.object "java/lang/Object"))), Cond.methodLink RJ7 86 ⟨"java/lang/Object", "getClass", "()Ljava/lang/Class;"⟩, Cond.selects "[Ljava/lang/Object;" ⟨"java/lang/Object", "getClass", "()Ljava/lang/Class;"⟩ ⟨"java/lang/Object", "getClass", "()Ljava/lang/Class;"⟩, Cond.instanceMethod ⟨"java/lang/Object", "getClass", "()Ljava/lang/Class;"⟩, Cond.native ⟨"java/lang/Object", "getClass", "()Ljava/lang/Class;"⟩, Cond.methodLink RJ7 300 yJ7_copyOf_6403c, Cond.static yJ7_copyOf_6403c, Cond.code yJ7_copyOf_6403c cJ7_copyOf_6403c 4 (some (.array (.object "java/lang/Object"))), Cond.classLink RJ7 110 "[Ljava/lang/Object;", Cond.classLink RJ7 2 "java/lang/Object", Cond.methodLink RJ7 304 Lib.Math.min.name, Cond.static Lib.Math.min.name, Cond.code Lib.Math.min.name Lib.Math.min.code 2 (some .int)]
def wsJx4a65c_add_9ea2d_r3 : List Cond := [Cond.methodLink RJ7 150 arraycopyName, Cond.native arraycopyName, Cond.static arraycopyName, Cond.initialized "java/lang/System"]
def wsJx4a65c_add_9ea2d : List Cond := .code yJx4a65c_add_9ea2d cJx4a65c_add_9ea2d 2 (some .boolean) :: ((wsJx4a65c_add_9ea2d_r1 ++ (wsJx4a65c_add_9ea2d_r2 ++ wsJx4a65c_add_9ea2d_r3)) ++ wsJx4a65c0)
def wsJx4a65c_iterator_32c93 : List Cond := .code yJx4a65c_iterator_32c93 cJx4a65c_iterator_32c93 1 (some (.object "java/util/Iterator")) :: ([.classLink RJx4a65c 267 RJx35411, .instantiable RJx35411 4, .initialized RJx35411, .methodLink RJx4a65c 269 yJx35411_init_45d68, .instanceMethod yJx35411_init_45d68, .code yJx35411_init_45d68 cJx35411_init_45d68 2 none, .fieldLink RJx35411 1 "java/util/ArrayList$Itr" "this$0" "Ljava/util/ArrayList;", .methodLink RJx35411 7 objectInit, .instanceMethod objectInit, .code objectInit ⟨#[0xb1]⟩ 1 none, .fieldLink RJx35411 13 "java/util/ArrayList$Itr" "lastRet" "I", .fieldLink RJx35411 17 "java/util/ArrayList" "modCount" "I", .sameField "java/util/ArrayList" "java/util/AbstractList" "modCount" "I", .fieldLink RJx35411 22 "java/util/ArrayList$Itr" "expectedModCount" "I"] ++ wsJx354110 ++ wsJx4a65c0)
def wsL_below : List Cond := .code yL_below cL_below 2 (some .int) :: ([.constant RL 7 (2147483647)])
def wsL_cell : List Cond := .code yL_cell cL_cell 2 (some .int) :: ([.constant RL 8 (790386105)])
def wsL_drawn : List Cond := .code yL_drawn cL_drawn 3 (some .int) :: ([.methodLink RL 9 yL_cell, .static yL_cell, .initialized RL, .code yL_cell cL_cell 2 (some .int), .constant RL 8 (790386105), .methodLink RL 15 yL_below, .static yL_below, .code yL_below cL_below 2 (some .int), .constant RL 7 (2147483647)])
def wsL_rank_r1 : List Cond := [Cond.classLink RL 29 "[[J", Cond.arrayClass .long, Cond.classLink RL 35 "java/lang/Integer", Cond.constantLong RL 40 (1000003), Cond.methodLink RL 23 ⟨"java/util/List", "size", "()I"⟩, Cond.selects RJx4a65c ⟨"java/util/List", "size", "()I"⟩ yJx4a65c_size_8abf5, Cond.instanceMethod yJx4a65c_size_8abf5, Cond.initialized RJx4a65c, Cond.code yJx4a65c_size_8abf5 cJx4a65c_size_8abf5 1 (some .int), Cond.fieldLink RJx4a65c 48 "java/util/ArrayList" "size" "I", Cond.methodLink RL 31 ⟨"java/util/List", "get", "(I)Ljava/lang/Object;"⟩, Cond.selects RJx4a65c ⟨"java/util/List", "get", "(I)Ljava/lang/Object;"⟩ yJx4a65c_get_915e3, Cond.instanceMethod yJx4a65c_get_915e3, Cond.code yJx4a65c_get_915e3 cJx4a65c_get_915e3 2 (some (.object "java/lang/Object")), Cond.methodLink RJx4a65c 118 yJ15_checkIndex_7cf53, Cond.static yJ15_checkIndex_7cf53, Cond.initialized RJ15, Cond.code yJ15_checkIndex_7cf53 cJ15_checkIndex_7cf53 2 (some .int), Cond.methodLink RJ15 105 yJ3_checkIndex_8e157, Cond.static yJ3_checkIndex_8e157, Cond.initialized RJ3, Cond.code yJ3_checkIndex_8e157 cJ3_checkIndex_8e157 3 (some .int), Cond.methodLink RJx4a65c 123 yJx4a65c_elementData_915e3, Cond.instanceMethod yJx4a65c_elementData_915e3]
def wsL_rank_r2 : List Cond := [Cond.selects RJx4a65c yJx4a65c_elementData_915e3 yJx4a65c_elementData_915e3, Cond.code yJx4a65c_elementData_915e3 cJx4a65c_elementData_915e3 2 (some (.object "java/lang/Object")), Cond.fieldLink RJx4a65c 9 "java/util/ArrayList" "elementData" "[Ljava/lang/Object;", Cond.methodLink RL 37 yJ6_intValue_8abf5, Cond.instanceMethod yJ6_intValue_8abf5, Cond.selects RJ6 yJ6_intValue_8abf5 yJ6_intValue_8abf5, Cond.initialized RJ6, Cond.code yJ6_intValue_8abf5 cJ6_intValue_8abf5 1 (some .int), Cond.fieldLink RJ6 205 "java/lang/Integer" "value" "I", Cond.methodLink RL 42 yJ9_floorMod_f86c9, Cond.static yJ9_floorMod_f86c9, Cond.initialized RJ9, Cond.code yJ9_floorMod_f86c9 cJ9_floorMod_f86c9 6 (some .long)]
def wsL_rank : List Cond := .code yL_rank cL_rank 14 (some .int) :: ((wsL_rank_r1 ++ wsL_rank_r2) ++ wsJx4a65c0 ++ wsJ60)
def wsL_isIn_r1 : List Cond := [Cond.methodLink RL 19 yL_rank, Cond.static yL_rank, Cond.initialized RL, Cond.code yL_rank cL_rank 14 (some .int), Cond.classLink RL 29 "[[J", Cond.arrayClass .long, Cond.classLink RL 35 "java/lang/Integer", Cond.constantLong RL 40 (1000003), Cond.methodLink RL 23 ⟨"java/util/List", "size", "()I"⟩, Cond.selects RJx4a65c ⟨"java/util/List", "size", "()I"⟩ yJx4a65c_size_8abf5, Cond.instanceMethod yJx4a65c_size_8abf5, Cond.initialized RJx4a65c, Cond.code yJx4a65c_size_8abf5 cJx4a65c_size_8abf5 1 (some .int), Cond.fieldLink RJx4a65c 48 "java/util/ArrayList" "size" "I", Cond.methodLink RL 31 ⟨"java/util/List", "get", "(I)Ljava/lang/Object;"⟩, Cond.selects RJx4a65c ⟨"java/util/List", "get", "(I)Ljava/lang/Object;"⟩ yJx4a65c_get_915e3, Cond.instanceMethod yJx4a65c_get_915e3, Cond.code yJx4a65c_get_915e3 cJx4a65c_get_915e3 2 (some (.object "java/lang/Object")), Cond.methodLink RJx4a65c 118 yJ15_checkIndex_7cf53, Cond.static yJ15_checkIndex_7cf53, Cond.initialized RJ15, Cond.code yJ15_checkIndex_7cf53 cJ15_checkIndex_7cf53 2 (some .int), Cond.methodLink RJ15 105 yJ3_checkIndex_8e157, Cond.static yJ3_checkIndex_8e157]
def wsL_isIn_r2 : List Cond := [Cond.initialized RJ3, Cond.code yJ3_checkIndex_8e157 cJ3_checkIndex_8e157 3 (some .int), Cond.methodLink RJx4a65c 123 yJx4a65c_elementData_915e3, Cond.instanceMethod yJx4a65c_elementData_915e3, Cond.selects RJx4a65c yJx4a65c_elementData_915e3 yJx4a65c_elementData_915e3, Cond.code yJx4a65c_elementData_915e3 cJx4a65c_elementData_915e3 2 (some (.object "java/lang/Object")), Cond.fieldLink RJx4a65c 9 "java/util/ArrayList" "elementData" "[Ljava/lang/Object;", Cond.methodLink RL 37 yJ6_intValue_8abf5, Cond.instanceMethod yJ6_intValue_8abf5, Cond.selects RJ6 yJ6_intValue_8abf5 yJ6_intValue_8abf5, Cond.initialized RJ6, Cond.code yJ6_intValue_8abf5 cJ6_intValue_8abf5 1 (some .int), Cond.fieldLink RJ6 205 "java/lang/Integer" "value" "I", Cond.methodLink RL 42 yJ9_floorMod_f86c9, Cond.static yJ9_floorMod_f86c9, Cond.initialized RJ9, Cond.code yJ9_floorMod_f86c9 cJ9_floorMod_f86c9 6 (some .long)]
def wsL_isIn : List Cond := .code yL_isIn cL_isIn 2 (some .boolean) :: ((wsL_isIn_r1 ++ wsL_isIn_r2) ++ wsJx4a65c0 ++ wsJ60)
def wsL_isShut : List Cond := .code yL_isShut cL_isShut 9 (some .boolean) :: ([.arrayClass .int])
def wsL_law0_r1 : List Cond := [Cond.classLink RL 48 RX6, Cond.instantiable RX6 5, Cond.initialized RX6, Cond.arrayClass .int, Cond.classLink RL 65 RJx4a65c, Cond.instantiable RJx4a65c 3, Cond.initialized RJx4a65c, Cond.classLink RL 68 "[I", Cond.methodLink RL 50 yX6_init, Cond.instanceMethod yX6_init, Cond.code yX6_init cX6_init 1 none, Cond.methodLink RX6 1 objectInit, Cond.instanceMethod objectInit, Cond.code objectInit ⟨#[0xb1]⟩ 1 none, Cond.classLink RX6 7 RX0, Cond.instantiable RX0 4, Cond.initialized RX0, Cond.fieldLink RX6 10 "Degreewall" "kinship" "LDegreewall$Kinship;", Cond.classLink RX6 16 RX5, Cond.instantiable RX5 3, Cond.initialized RX5, Cond.fieldLink RX6 19 "Degreewall" "tables" "LDegreewall$Tables;", Cond.classLink RX6 23 RX2, Cond.instantiable RX2 8]
def wsL_law0_r2 : List Cond := [Cond.initialized RX2, Cond.fieldLink RX6 26 "Degreewall" "permits" "LDegreewall$Permits;", Cond.classLink RX6 30 RX4, Cond.instantiable RX4 9, Cond.initialized RX4, Cond.fieldLink RX6 33 "Degreewall" "sums" "LDegreewall$Sums;", Cond.instanceMethod yX0_init, Cond.code yX0_init cX0_init 1 none, Cond.methodLink RX0 3 objectInit, Cond.classLink RX0 9 RX1, Cond.instantiable RX1 1, Cond.initialized RX1, Cond.fieldLink RX0 12 "Degreewall$Kinship" "kin" "LDegreewall$Links;", Cond.fieldLink RX0 18 "Degreewall$Kinship" "barred" "[I", Cond.fieldLink RX0 22 "Degreewall$Kinship" "bar" "I", Cond.instanceMethod yX1_init, Cond.code yX1_init cX1_init 1 none, Cond.methodLink RX1 3 objectInit, Cond.fieldLink RX1 9 "Degreewall$Links" "near" "[I", Cond.instanceMethod yX5_init, Cond.code yX5_init cX5_init 1 none, Cond.methodLink RX5 3 objectInit, Cond.fieldLink RX5 9 "Degreewall$Tables" "lines" "[I", Cond.instanceMethod yX2_init]
def wsL_law0_r3 : List Cond := [Cond.code yX2_init cX2_init 1 none, Cond.methodLink RX2 3 objectInit, Cond.fieldLink RX2 9 "Degreewall$Permits" "smaller" "[I", Cond.fieldLink RX2 15 "Degreewall$Permits" "greater" "[I", Cond.fieldLink RX2 18 "Degreewall$Permits" "lastDay" "[I", Cond.classLink RX2 21 RX1, Cond.fieldLink RX2 24 "Degreewall$Permits" "chains" "LDegreewall$Links;", Cond.instanceMethod yX4_init, Cond.code yX4_init cX4_init 1 none, Cond.methodLink RX4 3 objectInit, Cond.fieldLink RX4 9 "Degreewall$Sums" "values" "[I", Cond.classLink RX4 15 RX1, Cond.fieldLink RX4 18 "Degreewall$Sums" "talks" "LDegreewall$Links;", Cond.fieldLink RX4 22 "Degreewall$Sums" "hearers" "[I", Cond.fieldLink RX4 25 "Degreewall$Sums" "told" "[I", Cond.fieldLink RX4 28 "Degreewall$Sums" "refused" "[I", Cond.classLink RX4 31 RX3, Cond.instantiable RX3 3, Cond.initialized RX3, Cond.fieldLink RX4 34 "Degreewall$Sums" "span" "LDegreewall$Span;", Cond.fieldLink RX4 38 "Degreewall$Sums" "least" "I", Cond.instanceMethod yX3_init, Cond.code yX3_init cX3_init 1 none, Cond.methodLink RX3 3 objectInit]
def wsL_law0_r4 : List Cond := [Cond.classLink RX3 9 "[[I", Cond.fieldLink RX3 11 "Degreewall$Span" "rows" "[[I", Cond.fieldLink RX3 16 "Degreewall$Span" "rest" "[I", Cond.methodLink RL 51 yX6_source, Cond.instanceMethod yX6_source, Cond.selects RX6 yX6_source yX6_source, Cond.code yX6_source cX6_source 1 (some .int), Cond.classLink RX6 41 "java/lang/IllegalStateException", Cond.initialized "java/lang/IllegalStateException", Cond.methodLink RX6 37 yX0_count, Cond.instanceMethod yX0_count, Cond.selects RX0 yX0_count yX0_count, Cond.code yX0_count cX0_count 1 (some .int), Cond.fieldLink RX0 26 "Degreewall$Kinship" "count" "I", Cond.methodLink RX6 48 yX0_addSource, Cond.instanceMethod yX0_addSource, Cond.selects RX0 yX0_addSource yX0_addSource, Cond.code yX0_addSource cX0_addSource 1 (some .int), Cond.methodLink RL 54 yL_drawn, Cond.static yL_drawn, Cond.initialized RL, Cond.code yL_drawn cL_drawn 3 (some .int), Cond.methodLink RL 9 yL_cell, Cond.static yL_cell]
def wsL_law0_r5 : List Cond := [Cond.code yL_cell cL_cell 2 (some .int), Cond.constant RL 8 (790386105), Cond.methodLink RL 15 yL_below, Cond.static yL_below, Cond.code yL_below cL_below 2 (some .int), Cond.constant RL 7 (2147483647), Cond.methodLink RL 58 yX6_person, Cond.instanceMethod yX6_person, Cond.selects RX6 yX6_person yX6_person, Cond.code yX6_person cX6_person 2 (some .int), Cond.classLink RX6 55 "java/lang/IllegalArgumentException", Cond.initialized "java/lang/IllegalArgumentException", Cond.methodLink RX6 120 yX4_people, Cond.instanceMethod yX4_people, Cond.selects RX4 yX4_people yX4_people, Cond.code yX4_people cX4_people 1 (some .int), Cond.fieldLink RX4 42 "Degreewall$Sums" "people" "I", Cond.methodLink RX6 125 yX4_addPerson, Cond.instanceMethod yX4_addPerson, Cond.selects RX4 yX4_addPerson yX4_addPerson, Cond.code yX4_addPerson cX4_addPerson 2 (some .int), Cond.methodLink RL 62 yX6_asker, Cond.instanceMethod yX6_asker, Cond.selects RX6 yX6_asker yX6_asker]
def wsL_law0_r6 : List Cond := [Cond.code yX6_asker cX6_asker 1 (some .int), Cond.methodLink RX6 128 yX4_askers, Cond.instanceMethod yX4_askers, Cond.selects RX4 yX4_askers yX4_askers, Cond.code yX4_askers cX4_askers 1 (some .int), Cond.fieldLink RX4 45 "Degreewall$Sums" "askers" "I", Cond.methodLink RX6 133 yX4_addAsker, Cond.instanceMethod yX4_addAsker, Cond.selects RX4 yX4_addAsker yX4_addAsker, Cond.code yX4_addAsker cX4_addAsker 1 (some .int), Cond.methodLink RL 67 yJx4a65c_init_da8c8, Cond.instanceMethod yJx4a65c_init_da8c8, Cond.code yJx4a65c_init_da8c8 cJx4a65c_init_da8c8 1 none, Cond.fieldLink RJx4a65c 39 "java/util/ArrayList" "DEFAULTCAPACITY_EMPTY_ELEMENTDATA" "[Ljava/lang/Object;", Cond.fieldLink RJx4a65c 9 "java/util/ArrayList" "elementData" "[Ljava/lang/Object;", Cond.methodLink RJx4a65c 1 yJxc12de_init_da8c8, Cond.instanceMethod yJxc12de_init_da8c8, Cond.initialized RJxc12de, Cond.code yJxc12de_init_da8c8 cJxc12de_init_da8c8 1 none, Cond.fieldLink RJxc12de 7 "java/util/AbstractList" "modCount" "I", Cond.methodLink RJxc12de 1 yJxa1e45_init_da8c8, Cond.instanceMethod yJxa1e45_init_da8c8, Cond.initialized RJxa1e45, Cond.code yJxa1e45_init_da8c8 cJxa1e45_init_da8c8 1 none]
def wsL_law0_r7 : List Cond := [Cond.methodLink RJxa1e45 1 objectInit, Cond.methodLink RL 70 yX6_kin, Cond.instanceMethod yX6_kin, Cond.selects RX6 yX6_kin yX6_kin, Cond.code yX6_kin cX6_kin 4 (some .int), Cond.methodLink RX6 51 yX6_needSource, Cond.instanceMethod yX6_needSource, Cond.selects RX6 yX6_needSource yX6_needSource, Cond.code yX6_needSource cX6_needSource 2 none, Cond.classLink RX6 177 "java/lang/IndexOutOfBoundsException", Cond.initialized "java/lang/IndexOutOfBoundsException", Cond.methodLink RX6 322 yX0_knows, Cond.instanceMethod yX0_knows, Cond.selects RX0 yX0_knows yX0_knows, Cond.code yX0_knows cX0_knows 2 (some .boolean), Cond.methodLink RX6 60 yX0_tellKin, Cond.instanceMethod yX0_tellKin, Cond.selects RX0 yX0_tellKin yX0_tellKin, Cond.code yX0_tellKin cX0_tellKin 4 none, Cond.methodLink RX0 29 yX1_link, Cond.instanceMethod yX1_link, Cond.selects RX1 yX1_link yX1_link, Cond.code yX1_link cX1_link 3 none, Cond.methodLink RX0 33 yX1_cut]
def wsL_law0_r8 : List Cond := [Cond.instanceMethod yX1_cut, Cond.selects RX1 yX1_cut yX1_cut, Cond.code yX1_cut cX1_cut 3 none, Cond.methodLink RX0 36 yX0_findBarred, Cond.instanceMethod yX0_findBarred, Cond.selects RX0 yX0_findBarred yX0_findBarred, Cond.code yX0_findBarred cX0_findBarred 2 none, Cond.methodLink RX0 51 yX1_reach, Cond.instanceMethod yX1_reach, Cond.selects RX1 yX1_reach yX1_reach, Cond.code yX1_reach cX1_reach 5 (some .int), Cond.methodLink RX1 15 yX1_widened, Cond.instanceMethod yX1_widened, Cond.selects RX1 yX1_widened yX1_widened, Cond.code yX1_widened cX1_widened 4 (some .int), Cond.static yX6_contains, Cond.code yX6_contains cX6_contains 2 (some .boolean), Cond.methodLink RX6 64 yX6_applyBar, Cond.instanceMethod yX6_applyBar, Cond.selects RX6 yX6_applyBar yX6_applyBar, Cond.code yX6_applyBar cX6_applyBar 1 (some .int), Cond.methodLink RX6 97 yX2_findRepair, Cond.instanceMethod yX2_findRepair, Cond.selects RX2 yX2_findRepair yX2_findRepair]
def wsL_law0_r9 : List Cond := [Cond.code yX2_findRepair cX2_findRepair 6 none, Cond.fieldLink RX2 35 "Degreewall$Permits" "repair" "I", Cond.methodLink RX2 45 yX2_inForce, Cond.instanceMethod yX2_inForce, Cond.selects RX2 yX2_inForce yX2_inForce, Cond.code yX2_inForce cX2_inForce 3 (some .int), Cond.fieldLink RX2 28 "Degreewall$Permits" "count" "I", Cond.methodLink RX2 64 yX2_isInForce, Cond.instanceMethod yX2_isInForce, Cond.selects RX2 yX2_isInForce yX2_isInForce, Cond.code yX2_isInForce cX2_isInForce 2 (some .boolean), Cond.fieldLink RX2 32 "Degreewall$Permits" "today" "I", Cond.fieldLink RX2 38 "Degreewall$Permits" "revoked" "I", Cond.methodLink RX2 49 yJ6_bitCount_0f7a4, Cond.static yJ6_bitCount_0f7a4, Cond.initialized RJ6, Cond.code yJ6_bitCount_0f7a4 cJ6_bitCount_0f7a4 1 (some .int), Cond.constant RJ6 265 (1431655765), Cond.constant RJ6 266 (858993459), Cond.constant RJ6 267 (252645135), Cond.methodLink RX2 81 yX2_leaksBy, Cond.instanceMethod yX2_leaksBy, Cond.selects RX2 yX2_leaksBy yX2_leaksBy, Cond.code yX2_leaksBy cX2_leaksBy 6 (some .int)]
def wsL_law0_r10 : List Cond := [Cond.methodLink RX2 71 yX2_layOut, Cond.instanceMethod yX2_layOut, Cond.selects RX2 yX2_layOut yX2_layOut, Cond.code yX2_layOut cX2_layOut 3 none, Cond.methodLink RX2 85 yX1_cutAll, Cond.instanceMethod yX1_cutAll, Cond.selects RX1 yX1_cutAll yX1_cutAll, Cond.code yX1_cutAll cX1_cutAll 2 none, Cond.methodLink RX2 88 yX1_link, Cond.methodLink RX2 92 yX0_count, Cond.methodLink RX2 96 yX0_within, Cond.instanceMethod yX0_within, Cond.selects RX0 yX0_within yX0_within, Cond.code yX0_within cX0_within 2 (some .int), Cond.methodLink RX2 75 yX1_reach, Cond.methodLink RX6 319 yX5_strike, Cond.instanceMethod yX5_strike, Cond.selects RX5 yX5_strike yX5_strike, Cond.code yX5_strike cX5_strike 4 (some .int), Cond.fieldLink RX5 15 "Degreewall$Tables" "count" "I", Cond.fieldLink RX5 19 "Degreewall$Tables" "struck" "I", Cond.methodLink RX5 32 yX5_countStruck, Cond.instanceMethod yX5_countStruck, Cond.selects RX5 yX5_countStruck yX5_countStruck]
def wsL_law0_r11 : List Cond := [Cond.code yX5_countStruck cX5_countStruck 1 (some .int), Cond.methodLink RX5 26 yJ6_bitCount_0f7a4, Cond.methodLink RX5 36 yX0_firstPairWithin, Cond.instanceMethod yX0_firstPairWithin, Cond.selects RX0 yX0_firstPairWithin yX0_firstPairWithin, Cond.code yX0_firstPairWithin cX0_firstPairWithin 5 (some .int), Cond.methodLink RL 74 yX6_bar, Cond.instanceMethod yX6_bar, Cond.selects RX6 yX6_bar yX6_bar, Cond.code yX6_bar cX6_bar 2 (some .int), Cond.methodLink RX6 69 yX0_tellBar, Cond.instanceMethod yX0_tellBar, Cond.selects RX0 yX0_tellBar yX0_tellBar, Cond.code yX0_tellBar cX0_tellBar 2 none, Cond.methodLink RL 77 yX6_wouldJoin, Cond.instanceMethod yX6_wouldJoin, Cond.selects RX6 yX6_wouldJoin yX6_wouldJoin, Cond.code yX6_wouldJoin cX6_wouldJoin 3 (some .int), Cond.methodLink RX6 72 yX6_lineOf, Cond.instanceMethod yX6_lineOf, Cond.selects RX6 yX6_lineOf yX6_lineOf, Cond.code yX6_lineOf cX6_lineOf 2 (some .int), Cond.methodLink RX6 174 yX5_knows, Cond.instanceMethod yX5_knows]
def wsL_law0_r12 : List Cond := [Cond.selects RX5 yX5_knows yX5_knows, Cond.code yX5_knows cX5_knows 2 (some .boolean), Cond.methodLink RX6 185 yX5_isStruck, Cond.instanceMethod yX5_isStruck, Cond.selects RX5 yX5_isStruck yX5_isStruck, Cond.code yX5_isStruck cX5_isStruck 2 (some .boolean), Cond.methodLink RX6 182 yX5_line, Cond.instanceMethod yX5_line, Cond.selects RX5 yX5_line yX5_line, Cond.code yX5_line cX5_line 2 (some .int), Cond.methodLink RX6 76 yX0_firstPairWithin, Cond.methodLink RL 80 yX6_join, Cond.instanceMethod yX6_join, Cond.selects RX6 yX6_join yX6_join, Cond.code yX6_join cX6_join 4 (some .int), Cond.methodLink RX6 81 yX5_count, Cond.instanceMethod yX5_count, Cond.selects RX5 yX5_count yX5_count, Cond.code yX5_count cX5_count 1 (some .int), Cond.methodLink RX6 84 yX5_add, Cond.instanceMethod yX5_add, Cond.selects RX5 yX5_add yX5_add, Cond.code yX5_add cX5_add 2 (some .int), Cond.methodLink RL 83 yX6_permit]
def wsL_law0_r13 : List Cond := [Cond.instanceMethod yX6_permit, Cond.selects RX6 yX6_permit yX6_permit, Cond.code yX6_permit cX6_permit 5 (some .int), Cond.methodLink RX6 91 yX2_count, Cond.instanceMethod yX2_count, Cond.selects RX2 yX2_count yX2_count, Cond.code yX2_count cX2_count 1 (some .int), Cond.methodLink RX6 94 yX2_add, Cond.instanceMethod yX2_add, Cond.selects RX2 yX2_add yX2_add, Cond.code yX2_add cX2_add 4 (some .int), Cond.methodLink RX2 55 Lib.Math.min.name, Cond.static Lib.Math.min.name, Cond.initialized "java/lang/Math", Cond.code Lib.Math.min.name Lib.Math.min.code 2 (some .int), Cond.methodLink RX2 61 Lib.Math.max.name, Cond.static Lib.Math.max.name, Cond.code Lib.Math.max.name Lib.Math.max.code 2 (some .int), Cond.methodLink RL 87 yX6_talk, Cond.instanceMethod yX6_talk, Cond.selects RX6 yX6_talk yX6_talk, Cond.code yX6_talk cX6_talk 3 (some .boolean), Cond.methodLink RX6 141 yX6_needAsker, Cond.instanceMethod yX6_needAsker]
def wsL_law0_r14 : List Cond := [Cond.selects RX6 yX6_needAsker yX6_needAsker, Cond.code yX6_needAsker cX6_needAsker 2 none, Cond.methodLink RX6 330 yX4_knowsAsker, Cond.instanceMethod yX4_knowsAsker, Cond.selects RX4 yX4_knowsAsker yX4_knowsAsker, Cond.code yX4_knowsAsker cX4_knowsAsker 2 (some .boolean), Cond.methodLink RX6 153 yX4_letTalk, Cond.instanceMethod yX4_letTalk, Cond.selects RX4 yX4_letTalk yX4_letTalk, Cond.code yX4_letTalk cX4_letTalk 3 (some .boolean), Cond.methodLink RX4 65 yX4_givenAwayByTalk, Cond.instanceMethod yX4_givenAwayByTalk, Cond.selects RX4 yX4_givenAwayByTalk yX4_givenAwayByTalk, Cond.code yX4_givenAwayByTalk cX4_givenAwayByTalk 3 (some .int), Cond.methodLink RX4 75 yX4_circle, Cond.instanceMethod yX4_circle, Cond.selects RX4 yX4_circle yX4_circle, Cond.code yX4_circle cX4_circle 2 (some .int), Cond.methodLink RX4 72 yX1_reach, Cond.methodLink RX4 78 yX4_fillSpan, Cond.instanceMethod yX4_fillSpan, Cond.selects RX4 yX4_fillSpan yX4_fillSpan, Cond.code yX4_fillSpan cX4_fillSpan 3 none, Cond.methodLink RX4 106 yX3_forgetAll]
def wsL_law0_r15 : List Cond := [Cond.instanceMethod yX3_forgetAll, Cond.selects RX3 yX3_forgetAll yX3_forgetAll, Cond.code yX3_forgetAll cX3_forgetAll 1 none, Cond.fieldLink RX3 20 "Degreewall$Span" "used" "I", Cond.methodLink RX4 93 yX3_add, Cond.instanceMethod yX3_add, Cond.selects RX3 yX3_add yX3_add, Cond.code yX3_add cX3_add 4 none, Cond.methodLink RX3 24 yX3_firstOfRest, Cond.instanceMethod yX3_firstOfRest, Cond.selects RX3 yX3_firstOfRest yX3_firstOfRest, Cond.code yX3_firstOfRest cX3_firstOfRest 3 (some .int), Cond.methodLink RX3 32 yX3_clearAt, Cond.instanceMethod yX3_clearAt, Cond.selects RX3 yX3_clearAt yX3_clearAt, Cond.code yX3_clearAt cX3_clearAt 7 none, Cond.methodLink RX4 96 yX3_alone, Cond.instanceMethod yX3_alone, Cond.selects RX3 yX3_alone yX3_alone, Cond.code yX3_alone cX3_alone 3 (some .int), Cond.methodLink RX3 41 yX3_isAlone, Cond.static yX3_isAlone, Cond.code yX3_isAlone cX3_isAlone 3 (some .boolean), Cond.methodLink RX4 68 yX1_link]
def wsL_law0_r16 : List Cond := [Cond.methodLink RL 91 yX6_ask, Cond.instanceMethod yX6_ask, Cond.selects RX6 yX6_ask yX6_ask, Cond.code yX6_ask cX6_ask 3 (some .int), Cond.methodLink RX6 144 yX6_needSomePeople, Cond.instanceMethod yX6_needSomePeople, Cond.selects RX6 yX6_needSomePeople yX6_needSomePeople, Cond.code yX6_needSomePeople cX6_needSomePeople 2 none, Cond.methodLink RX6 222 yX6_needPeople, Cond.instanceMethod yX6_needPeople, Cond.selects RX6 yX6_needPeople yX6_needPeople, Cond.code yX6_needPeople cX6_needPeople 2 none, Cond.methodLink RX6 335 yX4_knowsPeople, Cond.instanceMethod yX4_knowsPeople, Cond.selects RX4 yX4_knowsPeople yX4_knowsPeople, Cond.code yX4_knowsPeople cX4_knowsPeople 2 (some .boolean), Cond.methodLink RX4 48 yX4_everybody, Cond.instanceMethod yX4_everybody, Cond.selects RX4 yX4_everybody yX4_everybody, Cond.code yX4_everybody cX4_everybody 1 (some .int), Cond.methodLink RX6 147 yX4_tell, Cond.instanceMethod yX4_tell, Cond.selects RX4 yX4_tell yX4_tell, Cond.code yX4_tell cX4_tell 3 (some .int)]
def wsL_law0_r17 : List Cond := [Cond.methodLink RX4 52 yJ6_bitCount_0f7a4, Cond.methodLink RX4 58 yX4_givenAwayWith, Cond.instanceMethod yX4_givenAwayWith, Cond.selects RX4 yX4_givenAwayWith yX4_givenAwayWith, Cond.code yX4_givenAwayWith cX4_givenAwayWith 3 (some .int), Cond.methodLink RX4 62 yX4_sumOf, Cond.instanceMethod yX4_sumOf, Cond.selects RX4 yX4_sumOf yX4_sumOf, Cond.code yX4_sumOf cX4_sumOf 4 (some .int), Cond.methodLink RL 94 ⟨"java/util/List", "add", "(Ljava/lang/Object;)Z"⟩, Cond.selects RJx4a65c ⟨"java/util/List", "add", "(Ljava/lang/Object;)Z"⟩ yJx4a65c_add_9ea2d, Cond.instanceMethod yJx4a65c_add_9ea2d, Cond.code yJx4a65c_add_9ea2d cJx4a65c_add_9ea2d 2 (some .boolean), Cond.fieldLink RJx4a65c 63 "java/util/ArrayList" "modCount" "I", Cond.sameField "java/util/ArrayList" "java/util/AbstractList" "modCount" "I", Cond.fieldLink RJx4a65c 48 "java/util/ArrayList" "size" "I", Cond.methodLink RJx4a65c 131 yJx4a65c_add_72be8, Cond.instanceMethod yJx4a65c_add_72be8, Cond.selects RJx4a65c yJx4a65c_add_72be8 yJx4a65c_add_72be8, Cond.code yJx4a65c_add_72be8 cJx4a65c_add_72be8 4 none, Cond.methodLink RJx4a65c 129 yJx4a65c_grow_d5877, Cond.instanceMethod yJx4a65c_grow_d5877, Cond.selects RJx4a65c yJx4a65c_grow_d5877 yJx4a65c_grow_d5877, Cond.code yJx4a65c_grow_d5877 cJx4a65c_grow_d5877 1 (some (.array (.object "java/lang/Object")))]
def wsL_law0_r18 : List Cond := [Cond.methodLink RJx4a65c 69 yJx4a65c_grow_92f84, Cond.instanceMethod yJx4a65c_grow_92f84, Cond.selects RJx4a65c yJx4a65c_grow_92f84 yJx4a65c_grow_92f84, Cond.code yJx4a65c_grow_92f84 cJx4a65c_grow_92f84 4 (some (.array (.object "java/lang/Object"))), Cond.methodLink RJx4a65c 79 Lib.Math.max.name, Cond.classLink RJx4a65c 7 "java/lang/Object", Cond.methodLink RJx4a65c 73 yJ8_newLength_cabcc, Cond.static yJ8_newLength_cabcc, Cond.initialized RJ8, Cond.code yJ8_newLength_cabcc cJ8_newLength_cabcc 4 (some .int), Cond.methodLink RJ8 194 Lib.Math.max.name, Cond.constant RJ8 200 (2147483639), Cond.methodLink RJ8 201 yJ8_hugeLength_7cf53, Cond.static yJ8_hugeLength_7cf53, Cond.code yJ8_hugeLength_7cf53 cJ8_hugeLength_7cf53 3 (some .int), Cond.methodLink RJx4a65c 66 yJ7_copyOf_1904c, Cond.static yJ7_copyOf_1904c, Cond.initialized RJ7, Cond.code yJ7_copyOf_1904c cJ7_copyOf_1904c 2 (some (.array (.object "java/lang/Object"))), Cond.methodLink RJ7 86 ⟨"java/lang/Object", "getClass", "()Ljava/lang/Class;"⟩, Cond.selects "[Ljava/lang/Object;" ⟨"java/lang/Object", "getClass", "()Ljava/lang/Class;"⟩ ⟨"java/lang/Object", "getClass", "()Ljava/lang/Class;"⟩, Cond.instanceMethod ⟨"java/lang/Object", "getClass", "()Ljava/lang/Class;"⟩, Cond.native ⟨"java/lang/Object", "getClass", "()Ljava/lang/Class;"⟩, Cond.methodLink RJ7 300 yJ7_copyOf_6403c]
def wsL_law0_r19 : List Cond := [Cond.static yJ7_copyOf_6403c, Cond.code yJ7_copyOf_6403c cJ7_copyOf_6403c 4 (some (.array (.object "java/lang/Object"))), Cond.classLink RJ7 110 "[Ljava/lang/Object;", Cond.classLink RJ7 2 "java/lang/Object", Cond.methodLink RJ7 304 Lib.Math.min.name, Cond.methodLink RJ7 150 arraycopyName, Cond.native arraycopyName, Cond.static arraycopyName, Cond.initialized "java/lang/System", Cond.methodLink RL 98 ⟨"java/util/List", "iterator", "()Ljava/util/Iterator;"⟩, Cond.selects RJx4a65c ⟨"java/util/List", "iterator", "()Ljava/util/Iterator;"⟩ yJx4a65c_iterator_32c93, Cond.instanceMethod yJx4a65c_iterator_32c93, Cond.code yJx4a65c_iterator_32c93 cJx4a65c_iterator_32c93 1 (some (.object "java/util/Iterator")), Cond.classLink RJx4a65c 267 RJx35411, Cond.instantiable RJx35411 4, Cond.initialized RJx35411, Cond.methodLink RJx4a65c 269 yJx35411_init_45d68, Cond.instanceMethod yJx35411_init_45d68, Cond.code yJx35411_init_45d68 cJx35411_init_45d68 2 none, Cond.fieldLink RJx35411 1 "java/util/ArrayList$Itr" "this$0" "Ljava/util/ArrayList;", Cond.methodLink RJx35411 7 objectInit, Cond.fieldLink RJx35411 13 "java/util/ArrayList$Itr" "lastRet" "I", Cond.fieldLink RJx35411 17 "java/util/ArrayList" "modCount" "I", Cond.fieldLink RJx35411 22 "java/util/ArrayList$Itr" "expectedModCount" "I"]
def wsL_law0_r20 : List Cond := [Cond.methodLink RL 102 ⟨"java/util/Iterator", "hasNext", "()Z"⟩, Cond.selects RJx35411 ⟨"java/util/Iterator", "hasNext", "()Z"⟩ yJx35411_hasNext_aae02, Cond.instanceMethod yJx35411_hasNext_aae02, Cond.code yJx35411_hasNext_aae02 cJx35411_hasNext_aae02 1 (some .boolean), Cond.fieldLink RJx35411 25 "java/util/ArrayList$Itr" "cursor" "I", Cond.methodLink RL 108 ⟨"java/util/Iterator", "next", "()Ljava/lang/Object;"⟩, Cond.selects RJx35411 ⟨"java/util/Iterator", "next", "()Ljava/lang/Object;"⟩ yJx35411_next_0502b, Cond.instanceMethod yJx35411_next_0502b, Cond.code yJx35411_next_0502b cJx35411_next_0502b 3 (some (.object "java/lang/Object")), Cond.fieldLink RJx35411 37 "java/util/ArrayList" "elementData" "[Ljava/lang/Object;", Cond.methodLink RJx35411 31 yJx35411_checkForComodification_da8c8, Cond.instanceMethod yJx35411_checkForComodification_da8c8, Cond.selects RJx35411 yJx35411_checkForComodification_da8c8 yJx35411_checkForComodification_da8c8, Cond.code yJx35411_checkForComodification_da8c8 cJx35411_checkForComodification_da8c8 1 none, Cond.methodLink RL 112 yJ6_valueOf_2dffe, Cond.static yJ6_valueOf_2dffe, Cond.code yJ6_valueOf_2dffe cJ6_valueOf_2dffe 1 (some (.object "java/lang/Integer")), Cond.fieldLink RJ6 191 "java/lang/Integer$IntegerCache" "high" "I", Cond.fieldLink RJ6 195 "java/lang/Integer$IntegerCache" "cache" "[Ljava/lang/Integer;", Cond.classLink RJ6 1 RJ6, Cond.instantiable RJ6 1, Cond.methodLink RJ6 199 yJ6_init_d00df, Cond.instanceMethod yJ6_init_d00df, Cond.code yJ6_init_d00df cJ6_init_d00df 2 none]
def wsL_law0_r21 : List Cond := [Cond.fieldLink RJ6 205 "java/lang/Integer" "value" "I", Cond.methodLink RJ6 202 yJxd2413_init_da8c8, Cond.instanceMethod yJxd2413_init_da8c8, Cond.initialized RJxd2413, Cond.code yJxd2413_init_da8c8 cJxd2413_init_da8c8 1 none, Cond.methodLink RJxd2413 1 objectInit, Cond.methodLink RL 116 yL_isIn, Cond.static yL_isIn, Cond.code yL_isIn cL_isIn 2 (some .boolean), Cond.methodLink RL 19 yL_rank, Cond.static yL_rank, Cond.code yL_rank cL_rank 14 (some .int), Cond.classLink RL 29 "[[J", Cond.arrayClass .long, Cond.classLink RL 35 "java/lang/Integer", Cond.constantLong RL 40 (1000003), Cond.methodLink RL 23 ⟨"java/util/List", "size", "()I"⟩, Cond.selects RJx4a65c ⟨"java/util/List", "size", "()I"⟩ yJx4a65c_size_8abf5, Cond.instanceMethod yJx4a65c_size_8abf5, Cond.code yJx4a65c_size_8abf5 cJx4a65c_size_8abf5 1 (some .int), Cond.methodLink RL 31 ⟨"java/util/List", "get", "(I)Ljava/lang/Object;"⟩, Cond.selects RJx4a65c ⟨"java/util/List", "get", "(I)Ljava/lang/Object;"⟩ yJx4a65c_get_915e3, Cond.instanceMethod yJx4a65c_get_915e3, Cond.code yJx4a65c_get_915e3 cJx4a65c_get_915e3 2 (some (.object "java/lang/Object"))]
def wsL_law0_r22 : List Cond := [Cond.methodLink RJx4a65c 118 yJ15_checkIndex_7cf53, Cond.static yJ15_checkIndex_7cf53, Cond.initialized RJ15, Cond.code yJ15_checkIndex_7cf53 cJ15_checkIndex_7cf53 2 (some .int), Cond.methodLink RJ15 105 yJ3_checkIndex_8e157, Cond.static yJ3_checkIndex_8e157, Cond.initialized RJ3, Cond.code yJ3_checkIndex_8e157 cJ3_checkIndex_8e157 3 (some .int), Cond.methodLink RJx4a65c 123 yJx4a65c_elementData_915e3, Cond.instanceMethod yJx4a65c_elementData_915e3, Cond.selects RJx4a65c yJx4a65c_elementData_915e3 yJx4a65c_elementData_915e3, Cond.code yJx4a65c_elementData_915e3 cJx4a65c_elementData_915e3 2 (some (.object "java/lang/Object")), Cond.methodLink RL 37 yJ6_intValue_8abf5, Cond.instanceMethod yJ6_intValue_8abf5, Cond.selects RJ6 yJ6_intValue_8abf5 yJ6_intValue_8abf5, Cond.code yJ6_intValue_8abf5 cJ6_intValue_8abf5 1 (some .int), Cond.methodLink RL 42 yJ9_floorMod_f86c9, Cond.static yJ9_floorMod_f86c9, Cond.initialized RJ9, Cond.code yJ9_floorMod_f86c9 cJ9_floorMod_f86c9 6 (some .long), Cond.methodLink RL 120 yX6_ofTable, Cond.instanceMethod yX6_ofTable, Cond.selects RX6 yX6_ofTable yX6_ofTable, Cond.code yX6_ofTable cX6_ofTable 3 (some .int)]
def wsL_law0_r23 : List Cond := [Cond.methodLink RL 123 yX6_ofSource, Cond.instanceMethod yX6_ofSource, Cond.selects RX6 yX6_ofSource yX6_ofSource, Cond.code yX6_ofSource cX6_ofSource 3 (some .int), Cond.methodLink RX6 160 yX0_kinOf, Cond.instanceMethod yX0_kinOf, Cond.selects RX0 yX0_kinOf yX0_kinOf, Cond.code yX0_kinOf cX0_kinOf 2 (some .int), Cond.methodLink RX0 39 yX1_nextTo, Cond.instanceMethod yX1_nextTo, Cond.selects RX1 yX1_nextTo yX1_nextTo, Cond.code yX1_nextTo cX1_nextTo 2 (some .int), Cond.methodLink RX6 163 yX0_within, Cond.methodLink RX6 166 yX2_chained, Cond.instanceMethod yX2_chained, Cond.selects RX2 yX2_chained yX2_chained, Cond.code yX2_chained cX2_chained 2 (some .int), Cond.methodLink RX6 169 yX5_countWith, Cond.instanceMethod yX5_countWith, Cond.selects RX5 yX5_countWith yX5_countWith, Cond.code yX5_countWith cX5_countWith 4 (some .int), Cond.methodLink RL 126 yX6_house, Cond.instanceMethod yX6_house, Cond.selects RX6 yX6_house yX6_house]
def wsL_law0_r24 : List Cond := [Cond.code yX6_house cX6_house 2 (some .int), Cond.fieldLink RX6 250 "Degreewall" "knocks" "I", Cond.methodLink RX6 228 yX5_countStruck, Cond.methodLink RX6 231 yX0_barNow, Cond.instanceMethod yX0_barNow, Cond.selects RX0 yX0_barNow yX0_barNow, Cond.code yX0_barNow cX0_barNow 1 (some .int), Cond.methodLink RX6 234 yX2_countInForce, Cond.instanceMethod yX2_countInForce, Cond.selects RX2 yX2_countInForce yX2_countInForce, Cond.code yX2_countInForce cX2_countInForce 1 (some .int), Cond.methodLink RX6 237 yX2_countLeaks, Cond.instanceMethod yX2_countLeaks, Cond.selects RX2 yX2_countLeaks yX2_countLeaks, Cond.code yX2_countLeaks cX2_countLeaks 2 (some .int), Cond.methodLink RX6 202 yX2_repair, Cond.instanceMethod yX2_repair, Cond.selects RX2 yX2_repair yX2_repair, Cond.code yX2_repair cX2_repair 1 (some .int), Cond.methodLink RX6 110 yX2_today, Cond.instanceMethod yX2_today, Cond.selects RX2 yX2_today yX2_today, Cond.code yX2_today cX2_today 1 (some .int), Cond.methodLink RX6 241 yX4_leastNow]
def wsL_law0_r25 : List Cond := [Cond.instanceMethod yX4_leastNow, Cond.selects RX4 yX4_leastNow yX4_leastNow, Cond.code yX4_leastNow cX4_leastNow 1 (some .int), Cond.methodLink RX6 244 yX4_toldEver, Cond.instanceMethod yX4_toldEver, Cond.selects RX4 yX4_toldEver yX4_toldEver, Cond.code yX4_toldEver cX4_toldEver 1 (some .int), Cond.methodLink RX4 85 yX4_total, Cond.static yX4_total, Cond.code yX4_total cX4_total 3 (some .int), Cond.methodLink RX6 247 yX4_refusedEver, Cond.instanceMethod yX4_refusedEver, Cond.selects RX4 yX4_refusedEver yX4_refusedEver, Cond.code yX4_refusedEver cX4_refusedEver 1 (some .int), Cond.methodLink RL 129 yL_isShut, Cond.static yL_isShut, Cond.code yL_isShut cL_isShut 9 (some .boolean), Cond.methodLink RL 133 yJ6_bitCount_0f7a4, Cond.methodLink RL 136 yX6_isSound, Cond.instanceMethod yX6_isSound, Cond.selects RX6 yX6_isSound yX6_isSound, Cond.code yX6_isSound cX6_isSound 1 (some .boolean), Cond.methodLink RX6 279 yX4_areSound, Cond.instanceMethod yX4_areSound]
def wsL_law0_r26 : List Cond := [Cond.selects RX4 yX4_areSound yX4_areSound, Cond.code yX4_areSound cX4_areSound 2 (some .boolean), Cond.methodLink RX4 99 yX4_spanHoldsAllTold, Cond.instanceMethod yX4_spanHoldsAllTold, Cond.selects RX4 yX4_spanHoldsAllTold yX4_spanHoldsAllTold, Cond.code yX4_spanHoldsAllTold cX4_spanHoldsAllTold 3 (some .boolean), Cond.methodLink RX4 89 yX3_holds, Cond.instanceMethod yX3_holds, Cond.selects RX3 yX3_holds yX3_holds, Cond.code yX3_holds cX3_holds 2 (some .boolean), Cond.methodLink RX6 283 yX5_areSound, Cond.instanceMethod yX5_areSound, Cond.selects RX5 yX5_areSound yX5_areSound, Cond.code yX5_areSound cX5_areSound 3 (some .boolean), Cond.methodLink RX6 286 yX2_areSound, Cond.instanceMethod yX2_areSound, Cond.selects RX2 yX2_areSound yX2_areSound, Cond.code yX2_areSound cX2_areSound 2 (some .boolean)]
def wsL_law0 : List Cond := (wsL_law0_r1 ++ (wsL_law0_r2 ++ (wsL_law0_r3 ++ (wsL_law0_r4 ++ (wsL_law0_r5 ++ (wsL_law0_r6 ++ (wsL_law0_r7 ++ (wsL_law0_r8 ++ (wsL_law0_r9 ++ (wsL_law0_r10 ++ (wsL_law0_r11 ++ (wsL_law0_r12 ++ (wsL_law0_r13 ++ (wsL_law0_r14 ++ (wsL_law0_r15 ++ (wsL_law0_r16 ++ (wsL_law0_r17 ++ (wsL_law0_r18 ++ (wsL_law0_r19 ++ (wsL_law0_r20 ++ (wsL_law0_r21 ++ (wsL_law0_r22 ++ (wsL_law0_r23 ++ (wsL_law0_r24 ++ (wsL_law0_r25 ++ wsL_law0_r26))))))))))))))))))))))))) ++ wsX60 ++ wsJx4a65c0 ++ wsX00 ++ wsX50 ++ wsX20 ++ wsX40 ++ wsX10 ++ wsX30 ++ wsJx354110 ++ wsJ60 ++ ([] : List Cond)
def wsL_law : List Cond := wsL_law0 ++ (vx_atS RX6 45 "java/lang/IllegalStateException" ["java/lang/RuntimeException", "java/lang/Exception"]).filter goodWord ++ (vx_atS RX6 59 "java/lang/IllegalArgumentException" ["java/lang/RuntimeException", "java/lang/Exception"]).filter goodWord ++ (vx_atS RX6 181 "java/lang/IndexOutOfBoundsException" ["java/lang/RuntimeException", "java/lang/Exception"]).filter goodWord
end
section
set_option maxRecDepth 20000 in
theorem ggX0_init_X1_init : GoodIn wsX0_init wsX1_init := goodIn_r _ [12, 13, 2, 3, 8, 14, 15] (by decide +kernel) (by decide +kernel)
set_option maxRecDepth 20000 in
theorem gX0_init_X1_init_n11 : GoodIn wsX0_init (wsX1_init) := ggX0_init_X1_init
theorem dX0_init_0 : decode cX0_init 0 = .ok (.aload_n 0, 1) := by decide +kernel
theorem dX0_init_1 : decode cX0_init 1 = .ok (.invokespecial 3, 3) := by decide +kernel
theorem dX0_init_4 : decode cX0_init 4 = .ok (.aload_n 0, 1) := by decide +kernel
theorem dX0_init_5 : decode cX0_init 5 = .ok (.new 9, 3) := by decide +kernel
theorem dX0_init_8 : decode cX0_init 8 = .ok (.dup, 1) := by decide +kernel
theorem dX0_init_9 : decode cX0_init 9 = .ok (.invokespecial 11, 3) := by decide +kernel
theorem dX0_init_12 : decode cX0_init 12 = .ok (.putfield 12, 3) := by decide +kernel
theorem dX0_init_15 : decode cX0_init 15 = .ok (.aload_n 0, 1) := by decide +kernel
theorem dX0_init_16 : decode cX0_init 16 = .ok (.bipush 7, 2) := by decide +kernel
theorem dX0_init_18 : decode cX0_init 18 = .ok (.newarray .int, 2) := by decide +kernel
theorem dX0_init_20 : decode cX0_init 20 = .ok (.putfield 18, 3) := by decide +kernel
theorem dX0_init_23 : decode cX0_init 23 = .ok (.aload_n 0, 1) := by decide +kernel
theorem dX0_init_24 : decode cX0_init 24 = .ok (.iconst 1, 1) := by decide +kernel
theorem dX0_init_25 : decode cX0_init 25 = .ok (.putfield 22, 3) := by decide +kernel
theorem dX0_init_28 : decode cX0_init 28 = .ok (.return_, 1) := by decide +kernel
theorem dX0_count_0 : decode cX0_count 0 = .ok (.aload_n 0, 1) := by decide +kernel
theorem dX0_count_1 : decode cX0_count 1 = .ok (.getfield 26, 3) := by decide +kernel
theorem dX0_count_4 : decode cX0_count 4 = .ok (.ireturn, 1) := by decide +kernel
theorem dX0_knows_0 : decode cX0_knows 0 = .ok (.iload_n 1, 1) := by decide +kernel
theorem dX0_knows_1 : decode cX0_knows 1 = .ok (.ifCond .lt 15, 3) := by decide +kernel
theorem dX0_knows_4 : decode cX0_knows 4 = .ok (.iload_n 1, 1) := by decide +kernel
theorem dX0_knows_5 : decode cX0_knows 5 = .ok (.aload_n 0, 1) := by decide +kernel
theorem dX0_knows_6 : decode cX0_knows 6 = .ok (.getfield 26, 3) := by decide +kernel
theorem dX0_knows_9 : decode cX0_knows 9 = .ok (.if_icmp .ge 7, 3) := by decide +kernel
theorem dX0_knows_12 : decode cX0_knows 12 = .ok (.iconst 1, 1) := by decide +kernel
theorem dX0_knows_13 : decode cX0_knows 13 = .ok (.goto 4, 3) := by decide +kernel
theorem dX0_knows_16 : decode cX0_knows 16 = .ok (.iconst 0, 1) := by decide +kernel
theorem dX0_knows_17 : decode cX0_knows 17 = .ok (.ireturn, 1) := by decide +kernel
theorem dX0_barNow_0 : decode cX0_barNow 0 = .ok (.aload_n 0, 1) := by decide +kernel
theorem dX0_barNow_1 : decode cX0_barNow 1 = .ok (.getfield 22, 3) := by decide +kernel
theorem dX0_barNow_4 : decode cX0_barNow 4 = .ok (.ireturn, 1) := by decide +kernel
theorem dX0_addSource_0 : decode cX0_addSource 0 = .ok (.aload_n 0, 1) := by decide +kernel
theorem dX0_addSource_1 : decode cX0_addSource 1 = .ok (.dup, 1) := by decide +kernel
theorem dX0_addSource_2 : decode cX0_addSource 2 = .ok (.getfield 26, 3) := by decide +kernel
theorem dX0_addSource_5 : decode cX0_addSource 5 = .ok (.iconst 1, 1) := by decide +kernel
theorem dX0_addSource_6 : decode cX0_addSource 6 = .ok (.iadd, 1) := by decide +kernel
theorem dX0_addSource_7 : decode cX0_addSource 7 = .ok (.putfield 26, 3) := by decide +kernel
theorem dX0_addSource_10 : decode cX0_addSource 10 = .ok (.aload_n 0, 1) := by decide +kernel
theorem dX0_addSource_11 : decode cX0_addSource 11 = .ok (.getfield 26, 3) := by decide +kernel
theorem dX0_addSource_14 : decode cX0_addSource 14 = .ok (.iconst 1, 1) := by decide +kernel
theorem dX0_addSource_15 : decode cX0_addSource 15 = .ok (.isub, 1) := by decide +kernel
theorem dX0_addSource_16 : decode cX0_addSource 16 = .ok (.ireturn, 1) := by decide +kernel
set_option maxRecDepth 20000 in
theorem ggX0_tellKin_X1_link : GoodIn wsX0_tellKin wsX1_link := goodIn_r _ [6, 7, 34] (by decide +kernel) (by decide +kernel)
set_option maxRecDepth 20000 in
theorem gX0_tellKin_X1_link : GoodIn wsX0_tellKin (wsV RX0 29 RX1 yX1_link wsX1_link) := goodIn_app (goodIn_of _ (by decide +kernel)) ggX0_tellKin_X1_link
set_option maxRecDepth 20000 in
theorem ggX0_tellKin_X1_cut : GoodIn wsX0_tellKin wsX1_cut := goodIn_r _ [11, 7, 34] (by decide +kernel) (by decide +kernel)
set_option maxRecDepth 20000 in
theorem gX0_tellKin_X1_cut : GoodIn wsX0_tellKin (wsV RX0 33 RX1 yX1_cut wsX1_cut) := goodIn_app (goodIn_of _ (by decide +kernel)) ggX0_tellKin_X1_cut
set_option maxRecDepth 20000 in
theorem ggX0_tellKin_X0_findBarred : GoodIn wsX0_tellKin wsX0_findBarred := goodIn_r _ [16, 17, 1, 18, 19, 20, 21, 5, 22, 23, 24, 25, 26, 7, 27, 28, 29, 30, 31, 32, 33, 34] (by decide +kernel) (by decide +kernel)
set_option maxRecDepth 20000 in
theorem gX0_tellKin_X0_findBarred : GoodIn wsX0_tellKin (wsV RX0 36 RX0 yX0_findBarred wsX0_findBarred) := goodIn_app (goodIn_of _ (by decide +kernel)) ggX0_tellKin_X0_findBarred
theorem dX0_tellKin_0 : decode cX0_tellKin 0 = .ok (.iload_n 3, 1) := by decide +kernel
theorem dX0_tellKin_1 : decode cX0_tellKin 1 = .ok (.ifCond .eq 15, 3) := by decide +kernel
theorem dX0_tellKin_4 : decode cX0_tellKin 4 = .ok (.aload_n 0, 1) := by decide +kernel
theorem dX0_tellKin_5 : decode cX0_tellKin 5 = .ok (.getfield 12, 3) := by decide +kernel
theorem dX0_tellKin_8 : decode cX0_tellKin 8 = .ok (.iload_n 1, 1) := by decide +kernel
theorem dX0_tellKin_9 : decode cX0_tellKin 9 = .ok (.iload_n 2, 1) := by decide +kernel
theorem dX0_tellKin_10 : decode cX0_tellKin 10 = .ok (.invokevirtual 29, 3) := by decide +kernel
theorem dX0_tellKin_13 : decode cX0_tellKin 13 = .ok (.goto 12, 3) := by decide +kernel
theorem dX0_tellKin_16 : decode cX0_tellKin 16 = .ok (.aload_n 0, 1) := by decide +kernel
theorem dX0_tellKin_17 : decode cX0_tellKin 17 = .ok (.getfield 12, 3) := by decide +kernel
theorem dX0_tellKin_20 : decode cX0_tellKin 20 = .ok (.iload_n 1, 1) := by decide +kernel
theorem dX0_tellKin_21 : decode cX0_tellKin 21 = .ok (.iload_n 2, 1) := by decide +kernel
theorem dX0_tellKin_22 : decode cX0_tellKin 22 = .ok (.invokevirtual 33, 3) := by decide +kernel
theorem dX0_tellKin_25 : decode cX0_tellKin 25 = .ok (.aload_n 0, 1) := by decide +kernel
theorem dX0_tellKin_26 : decode cX0_tellKin 26 = .ok (.invokevirtual 36, 3) := by decide +kernel
theorem dX0_tellKin_29 : decode cX0_tellKin 29 = .ok (.return_, 1) := by decide +kernel
set_option maxRecDepth 20000 in
theorem ggX0_tellBar_X0_findBarred : GoodIn wsX0_tellBar wsX0_findBarred := goodIn_r _ [6, 7, 8, 1, 9, 10, 11, 12, 13, 14, 15, 16, 17, 18, 19, 20, 21, 22, 23, 24, 25, 26] (by decide +kernel) (by decide +kernel)
set_option maxRecDepth 20000 in
theorem gX0_tellBar_X0_findBarred : GoodIn wsX0_tellBar (wsV RX0 36 RX0 yX0_findBarred wsX0_findBarred) := goodIn_app (goodIn_of _ (by decide +kernel)) ggX0_tellBar_X0_findBarred
theorem dX0_tellBar_0 : decode cX0_tellBar 0 = .ok (.aload_n 0, 1) := by decide +kernel
theorem dX0_tellBar_1 : decode cX0_tellBar 1 = .ok (.iload_n 1, 1) := by decide +kernel
theorem dX0_tellBar_2 : decode cX0_tellBar 2 = .ok (.putfield 22, 3) := by decide +kernel
theorem dX0_tellBar_5 : decode cX0_tellBar 5 = .ok (.aload_n 0, 1) := by decide +kernel
theorem dX0_tellBar_6 : decode cX0_tellBar 6 = .ok (.invokevirtual 36, 3) := by decide +kernel
theorem dX0_tellBar_9 : decode cX0_tellBar 9 = .ok (.return_, 1) := by decide +kernel
set_option maxRecDepth 20000 in
theorem ggX0_kinOf_X1_nextTo : GoodIn wsX0_kinOf wsX1_nextTo := goodIn_r _ [6, 7, 12] (by decide +kernel) (by decide +kernel)
set_option maxRecDepth 20000 in
theorem gX0_kinOf_X1_nextTo : GoodIn wsX0_kinOf (wsV RX0 39 RX1 yX1_nextTo wsX1_nextTo) := goodIn_app (goodIn_of _ (by decide +kernel)) ggX0_kinOf_X1_nextTo
theorem dX0_kinOf_0 : decode cX0_kinOf 0 = .ok (.aload_n 0, 1) := by decide +kernel
theorem dX0_kinOf_1 : decode cX0_kinOf 1 = .ok (.getfield 12, 3) := by decide +kernel
theorem dX0_kinOf_4 : decode cX0_kinOf 4 = .ok (.iload_n 1, 1) := by decide +kernel
theorem dX0_kinOf_5 : decode cX0_kinOf 5 = .ok (.invokevirtual 39, 3) := by decide +kernel
theorem dX0_kinOf_8 : decode cX0_kinOf 8 = .ok (.ireturn, 1) := by decide +kernel
theorem dX0_within_0 : decode cX0_within 0 = .ok (.aload_n 0, 1) := by decide +kernel
theorem dX0_within_1 : decode cX0_within 1 = .ok (.getfield 18, 3) := by decide +kernel
theorem dX0_within_4 : decode cX0_within 4 = .ok (.iload_n 1, 1) := by decide +kernel
theorem dX0_within_5 : decode cX0_within 5 = .ok (.iaload, 1) := by decide +kernel
theorem dX0_within_6 : decode cX0_within 6 = .ok (.ireturn, 1) := by decide +kernel
set_option maxRecDepth 20000 in
theorem ggX0_firstPairWithin_X6_contains : GoodIn wsX0_firstPairWithin wsX6_contains := goodIn_r _ [5] (by decide +kernel) (by decide +kernel)
set_option maxRecDepth 20000 in
theorem gX0_firstPairWithin_X6_contains_n47 : GoodIn wsX0_firstPairWithin (wsX6_contains) := ggX0_firstPairWithin_X6_contains
theorem dX0_firstPairWithin_0 : decode cX0_firstPairWithin 0 = .ok (.iconst 0, 1) := by decide +kernel
theorem dX0_firstPairWithin_1 : decode cX0_firstPairWithin 1 = .ok (.istore_n 2, 1) := by decide +kernel
theorem dX0_firstPairWithin_2 : decode cX0_firstPairWithin 2 = .ok (.iload_n 2, 1) := by decide +kernel
theorem dX0_firstPairWithin_3 : decode cX0_firstPairWithin 3 = .ok (.aload_n 0, 1) := by decide +kernel
theorem dX0_firstPairWithin_4 : decode cX0_firstPairWithin 4 = .ok (.getfield 26, 3) := by decide +kernel
theorem dX0_firstPairWithin_7 : decode cX0_firstPairWithin 7 = .ok (.if_icmp .ge 67, 3) := by decide +kernel
theorem dX0_firstPairWithin_10 : decode cX0_firstPairWithin 10 = .ok (.iload_n 1, 1) := by decide +kernel
theorem dX0_firstPairWithin_11 : decode cX0_firstPairWithin 11 = .ok (.iload_n 2, 1) := by decide +kernel
theorem dX0_firstPairWithin_12 : decode cX0_firstPairWithin 12 = .ok (.invokestatic 47, 3) := by decide +kernel
theorem dX0_firstPairWithin_15 : decode cX0_firstPairWithin 15 = .ok (.ifCond .eq 14, 3) := by decide +kernel
theorem dX0_firstPairWithin_18 : decode cX0_firstPairWithin 18 = .ok (.iload_n 1, 1) := by decide +kernel
theorem dX0_firstPairWithin_19 : decode cX0_firstPairWithin 19 = .ok (.aload_n 0, 1) := by decide +kernel
theorem dX0_firstPairWithin_20 : decode cX0_firstPairWithin 20 = .ok (.getfield 18, 3) := by decide +kernel
theorem dX0_firstPairWithin_23 : decode cX0_firstPairWithin 23 = .ok (.iload_n 2, 1) := by decide +kernel
theorem dX0_firstPairWithin_24 : decode cX0_firstPairWithin 24 = .ok (.iaload, 1) := by decide +kernel
theorem dX0_firstPairWithin_25 : decode cX0_firstPairWithin 25 = .ok (.iand, 1) := by decide +kernel
theorem dX0_firstPairWithin_26 : decode cX0_firstPairWithin 26 = .ok (.goto 4, 3) := by decide +kernel
theorem dX0_firstPairWithin_29 : decode cX0_firstPairWithin 29 = .ok (.iconst 0, 1) := by decide +kernel
theorem dX0_firstPairWithin_30 : decode cX0_firstPairWithin 30 = .ok (.istore_n 3, 1) := by decide +kernel
theorem dX0_firstPairWithin_31 : decode cX0_firstPairWithin 31 = .ok (.iload_n 2, 1) := by decide +kernel
theorem dX0_firstPairWithin_32 : decode cX0_firstPairWithin 32 = .ok (.iconst 1, 1) := by decide +kernel
theorem dX0_firstPairWithin_33 : decode cX0_firstPairWithin 33 = .ok (.iadd, 1) := by decide +kernel
theorem dX0_firstPairWithin_34 : decode cX0_firstPairWithin 34 = .ok (.istore 4, 2) := by decide +kernel
theorem dX0_firstPairWithin_36 : decode cX0_firstPairWithin 36 = .ok (.iload 4, 2) := by decide +kernel
theorem dX0_firstPairWithin_38 : decode cX0_firstPairWithin 38 = .ok (.aload_n 0, 1) := by decide +kernel
theorem dX0_firstPairWithin_39 : decode cX0_firstPairWithin 39 = .ok (.getfield 26, 3) := by decide +kernel
theorem dX0_firstPairWithin_42 : decode cX0_firstPairWithin 42 = .ok (.if_icmp .ge 26, 3) := by decide +kernel
theorem dX0_firstPairWithin_45 : decode cX0_firstPairWithin 45 = .ok (.iload_n 3, 1) := by decide +kernel
theorem dX0_firstPairWithin_46 : decode cX0_firstPairWithin 46 = .ok (.iload 4, 2) := by decide +kernel
theorem dX0_firstPairWithin_48 : decode cX0_firstPairWithin 48 = .ok (.invokestatic 47, 3) := by decide +kernel
theorem dX0_firstPairWithin_51 : decode cX0_firstPairWithin 51 = .ok (.ifCond .eq 11, 3) := by decide +kernel
theorem dX0_firstPairWithin_54 : decode cX0_firstPairWithin 54 = .ok (.iload_n 2, 1) := by decide +kernel
theorem dX0_firstPairWithin_55 : decode cX0_firstPairWithin 55 = .ok (.bipush 10, 2) := by decide +kernel
theorem dX0_firstPairWithin_57 : decode cX0_firstPairWithin 57 = .ok (.imul, 1) := by decide +kernel
theorem dX0_firstPairWithin_58 : decode cX0_firstPairWithin 58 = .ok (.iload 4, 2) := by decide +kernel
theorem dX0_firstPairWithin_60 : decode cX0_firstPairWithin 60 = .ok (.iadd, 1) := by decide +kernel
theorem dX0_firstPairWithin_61 : decode cX0_firstPairWithin 61 = .ok (.ireturn, 1) := by decide +kernel
theorem dX0_firstPairWithin_62 : decode cX0_firstPairWithin 62 = .ok (.iinc 4 1, 3) := by decide +kernel
theorem dX0_firstPairWithin_65 : decode cX0_firstPairWithin 65 = .ok (.goto (-29), 3) := by decide +kernel
theorem dX0_firstPairWithin_68 : decode cX0_firstPairWithin 68 = .ok (.iinc 2 1, 3) := by decide +kernel
theorem dX0_firstPairWithin_71 : decode cX0_firstPairWithin 71 = .ok (.goto (-69), 3) := by decide +kernel
theorem dX0_firstPairWithin_74 : decode cX0_firstPairWithin 74 = .ok (.iconst (-1), 1) := by decide +kernel
theorem dX0_firstPairWithin_75 : decode cX0_firstPairWithin 75 = .ok (.ireturn, 1) := by decide +kernel
set_option maxRecDepth 20000 in
theorem ggX0_findBarred_X1_reach : GoodIn wsX0_findBarred wsX1_reach := goodIn_r _ [8, 9, 10, 11, 7, 12, 13, 14, 15, 16, 21] (by decide +kernel) (by decide +kernel)
set_option maxRecDepth 20000 in
theorem gX0_findBarred_X1_reach : GoodIn wsX0_findBarred (wsV RX0 51 RX1 yX1_reach wsX1_reach) := goodIn_app (goodIn_of _ (by decide +kernel)) ggX0_findBarred_X1_reach
theorem dX0_findBarred_0 : decode cX0_findBarred 0 = .ok (.iconst 0, 1) := by decide +kernel
theorem dX0_findBarred_1 : decode cX0_findBarred 1 = .ok (.istore_n 1, 1) := by decide +kernel
theorem dX0_findBarred_2 : decode cX0_findBarred 2 = .ok (.iload_n 1, 1) := by decide +kernel
theorem dX0_findBarred_3 : decode cX0_findBarred 3 = .ok (.aload_n 0, 1) := by decide +kernel
theorem dX0_findBarred_4 : decode cX0_findBarred 4 = .ok (.getfield 18, 3) := by decide +kernel
theorem dX0_findBarred_7 : decode cX0_findBarred 7 = .ok (.arraylength, 1) := by decide +kernel
theorem dX0_findBarred_8 : decode cX0_findBarred 8 = .ok (.if_icmp .ge 33, 3) := by decide +kernel
theorem dX0_findBarred_11 : decode cX0_findBarred 11 = .ok (.aload_n 0, 1) := by decide +kernel
theorem dX0_findBarred_12 : decode cX0_findBarred 12 = .ok (.getfield 18, 3) := by decide +kernel
theorem dX0_findBarred_15 : decode cX0_findBarred 15 = .ok (.iload_n 1, 1) := by decide +kernel
theorem dX0_findBarred_16 : decode cX0_findBarred 16 = .ok (.aload_n 0, 1) := by decide +kernel
theorem dX0_findBarred_17 : decode cX0_findBarred 17 = .ok (.getfield 12, 3) := by decide +kernel
theorem dX0_findBarred_20 : decode cX0_findBarred 20 = .ok (.iload_n 1, 1) := by decide +kernel
theorem dX0_findBarred_21 : decode cX0_findBarred 21 = .ok (.aload_n 0, 1) := by decide +kernel
theorem dX0_findBarred_22 : decode cX0_findBarred 22 = .ok (.getfield 22, 3) := by decide +kernel
theorem dX0_findBarred_25 : decode cX0_findBarred 25 = .ok (.invokevirtual 51, 3) := by decide +kernel
theorem dX0_findBarred_28 : decode cX0_findBarred 28 = .ok (.iconst 1, 1) := by decide +kernel
theorem dX0_findBarred_29 : decode cX0_findBarred 29 = .ok (.iload_n 1, 1) := by decide +kernel
theorem dX0_findBarred_30 : decode cX0_findBarred 30 = .ok (.ishl, 1) := by decide +kernel
theorem dX0_findBarred_31 : decode cX0_findBarred 31 = .ok (.iconst (-1), 1) := by decide +kernel
theorem dX0_findBarred_32 : decode cX0_findBarred 32 = .ok (.ixor, 1) := by decide +kernel
theorem dX0_findBarred_33 : decode cX0_findBarred 33 = .ok (.iand, 1) := by decide +kernel
theorem dX0_findBarred_34 : decode cX0_findBarred 34 = .ok (.iastore, 1) := by decide +kernel
theorem dX0_findBarred_35 : decode cX0_findBarred 35 = .ok (.iinc 1 1, 3) := by decide +kernel
theorem dX0_findBarred_38 : decode cX0_findBarred 38 = .ok (.goto (-36), 3) := by decide +kernel
theorem dX0_findBarred_41 : decode cX0_findBarred 41 = .ok (.return_, 1) := by decide +kernel
theorem dX1_init_0 : decode cX1_init 0 = .ok (.aload_n 0, 1) := by decide +kernel
theorem dX1_init_1 : decode cX1_init 1 = .ok (.invokespecial 3, 3) := by decide +kernel
theorem dX1_init_4 : decode cX1_init 4 = .ok (.aload_n 0, 1) := by decide +kernel
theorem dX1_init_5 : decode cX1_init 5 = .ok (.bipush 7, 2) := by decide +kernel
theorem dX1_init_7 : decode cX1_init 7 = .ok (.newarray .int, 2) := by decide +kernel
theorem dX1_init_9 : decode cX1_init 9 = .ok (.putfield 9, 3) := by decide +kernel
theorem dX1_init_12 : decode cX1_init 12 = .ok (.return_, 1) := by decide +kernel
theorem dX1_cutAll_0 : decode cX1_cutAll 0 = .ok (.iconst 0, 1) := by decide +kernel
theorem dX1_cutAll_1 : decode cX1_cutAll 1 = .ok (.istore_n 1, 1) := by decide +kernel
theorem dX1_cutAll_2 : decode cX1_cutAll 2 = .ok (.iload_n 1, 1) := by decide +kernel
theorem dX1_cutAll_3 : decode cX1_cutAll 3 = .ok (.aload_n 0, 1) := by decide +kernel
theorem dX1_cutAll_4 : decode cX1_cutAll 4 = .ok (.getfield 9, 3) := by decide +kernel
theorem dX1_cutAll_7 : decode cX1_cutAll 7 = .ok (.arraylength, 1) := by decide +kernel
theorem dX1_cutAll_8 : decode cX1_cutAll 8 = .ok (.if_icmp .ge 16, 3) := by decide +kernel
theorem dX1_cutAll_11 : decode cX1_cutAll 11 = .ok (.aload_n 0, 1) := by decide +kernel
theorem dX1_cutAll_12 : decode cX1_cutAll 12 = .ok (.getfield 9, 3) := by decide +kernel
theorem dX1_cutAll_15 : decode cX1_cutAll 15 = .ok (.iload_n 1, 1) := by decide +kernel
theorem dX1_cutAll_16 : decode cX1_cutAll 16 = .ok (.iconst 0, 1) := by decide +kernel
theorem dX1_cutAll_17 : decode cX1_cutAll 17 = .ok (.iastore, 1) := by decide +kernel
theorem dX1_cutAll_18 : decode cX1_cutAll 18 = .ok (.iinc 1 1, 3) := by decide +kernel
theorem dX1_cutAll_21 : decode cX1_cutAll 21 = .ok (.goto (-19), 3) := by decide +kernel
theorem dX1_cutAll_24 : decode cX1_cutAll 24 = .ok (.return_, 1) := by decide +kernel
theorem dX1_link_0 : decode cX1_link 0 = .ok (.aload_n 0, 1) := by decide +kernel
theorem dX1_link_1 : decode cX1_link 1 = .ok (.getfield 9, 3) := by decide +kernel
theorem dX1_link_4 : decode cX1_link 4 = .ok (.iload_n 1, 1) := by decide +kernel
theorem dX1_link_5 : decode cX1_link 5 = .ok (.dup2, 1) := by decide +kernel
theorem dX1_link_6 : decode cX1_link 6 = .ok (.iaload, 1) := by decide +kernel
theorem dX1_link_7 : decode cX1_link 7 = .ok (.iconst 1, 1) := by decide +kernel
theorem dX1_link_8 : decode cX1_link 8 = .ok (.iload_n 2, 1) := by decide +kernel
theorem dX1_link_9 : decode cX1_link 9 = .ok (.ishl, 1) := by decide +kernel
theorem dX1_link_10 : decode cX1_link 10 = .ok (.ior, 1) := by decide +kernel
theorem dX1_link_11 : decode cX1_link 11 = .ok (.iastore, 1) := by decide +kernel
theorem dX1_link_12 : decode cX1_link 12 = .ok (.aload_n 0, 1) := by decide +kernel
theorem dX1_link_13 : decode cX1_link 13 = .ok (.getfield 9, 3) := by decide +kernel
theorem dX1_link_16 : decode cX1_link 16 = .ok (.iload_n 2, 1) := by decide +kernel
theorem dX1_link_17 : decode cX1_link 17 = .ok (.dup2, 1) := by decide +kernel
theorem dX1_link_18 : decode cX1_link 18 = .ok (.iaload, 1) := by decide +kernel
theorem dX1_link_19 : decode cX1_link 19 = .ok (.iconst 1, 1) := by decide +kernel
theorem dX1_link_20 : decode cX1_link 20 = .ok (.iload_n 1, 1) := by decide +kernel
theorem dX1_link_21 : decode cX1_link 21 = .ok (.ishl, 1) := by decide +kernel
theorem dX1_link_22 : decode cX1_link 22 = .ok (.ior, 1) := by decide +kernel
theorem dX1_link_23 : decode cX1_link 23 = .ok (.iastore, 1) := by decide +kernel
theorem dX1_link_24 : decode cX1_link 24 = .ok (.return_, 1) := by decide +kernel
theorem dX1_cut_0 : decode cX1_cut 0 = .ok (.aload_n 0, 1) := by decide +kernel
theorem dX1_cut_1 : decode cX1_cut 1 = .ok (.getfield 9, 3) := by decide +kernel
theorem dX1_cut_4 : decode cX1_cut 4 = .ok (.iload_n 1, 1) := by decide +kernel
theorem dX1_cut_5 : decode cX1_cut 5 = .ok (.dup2, 1) := by decide +kernel
theorem dX1_cut_6 : decode cX1_cut 6 = .ok (.iaload, 1) := by decide +kernel
theorem dX1_cut_7 : decode cX1_cut 7 = .ok (.iconst 1, 1) := by decide +kernel
theorem dX1_cut_8 : decode cX1_cut 8 = .ok (.iload_n 2, 1) := by decide +kernel
theorem dX1_cut_9 : decode cX1_cut 9 = .ok (.ishl, 1) := by decide +kernel
theorem dX1_cut_10 : decode cX1_cut 10 = .ok (.iconst (-1), 1) := by decide +kernel
theorem dX1_cut_11 : decode cX1_cut 11 = .ok (.ixor, 1) := by decide +kernel
theorem dX1_cut_12 : decode cX1_cut 12 = .ok (.iand, 1) := by decide +kernel
theorem dX1_cut_13 : decode cX1_cut 13 = .ok (.iastore, 1) := by decide +kernel
theorem dX1_cut_14 : decode cX1_cut 14 = .ok (.aload_n 0, 1) := by decide +kernel
theorem dX1_cut_15 : decode cX1_cut 15 = .ok (.getfield 9, 3) := by decide +kernel
theorem dX1_cut_18 : decode cX1_cut 18 = .ok (.iload_n 2, 1) := by decide +kernel
theorem dX1_cut_19 : decode cX1_cut 19 = .ok (.dup2, 1) := by decide +kernel
theorem dX1_cut_20 : decode cX1_cut 20 = .ok (.iaload, 1) := by decide +kernel
theorem dX1_cut_21 : decode cX1_cut 21 = .ok (.iconst 1, 1) := by decide +kernel
theorem dX1_cut_22 : decode cX1_cut 22 = .ok (.iload_n 1, 1) := by decide +kernel
theorem dX1_cut_23 : decode cX1_cut 23 = .ok (.ishl, 1) := by decide +kernel
theorem dX1_cut_24 : decode cX1_cut 24 = .ok (.iconst (-1), 1) := by decide +kernel
theorem dX1_cut_25 : decode cX1_cut 25 = .ok (.ixor, 1) := by decide +kernel
theorem dX1_cut_26 : decode cX1_cut 26 = .ok (.iand, 1) := by decide +kernel
theorem dX1_cut_27 : decode cX1_cut 27 = .ok (.iastore, 1) := by decide +kernel
theorem dX1_cut_28 : decode cX1_cut 28 = .ok (.return_, 1) := by decide +kernel
theorem dX1_nextTo_0 : decode cX1_nextTo 0 = .ok (.aload_n 0, 1) := by decide +kernel
theorem dX1_nextTo_1 : decode cX1_nextTo 1 = .ok (.getfield 9, 3) := by decide +kernel
theorem dX1_nextTo_4 : decode cX1_nextTo 4 = .ok (.iload_n 1, 1) := by decide +kernel
theorem dX1_nextTo_5 : decode cX1_nextTo 5 = .ok (.iaload, 1) := by decide +kernel
theorem dX1_nextTo_6 : decode cX1_nextTo 6 = .ok (.ireturn, 1) := by decide +kernel
set_option maxRecDepth 20000 in
theorem ggX1_reach_X1_widened : GoodIn wsX1_reach wsX1_widened := goodIn_r _ [5, 6, 7, 8, 9, 10] (by decide +kernel) (by decide +kernel)
set_option maxRecDepth 20000 in
theorem gX1_reach_X1_widened : GoodIn wsX1_reach (wsV RX1 15 RX1 yX1_widened wsX1_widened) := goodIn_app (goodIn_of _ (by decide +kernel)) ggX1_reach_X1_widened
theorem dX1_reach_0 : decode cX1_reach 0 = .ok (.iconst 1, 1) := by decide +kernel
theorem dX1_reach_1 : decode cX1_reach 1 = .ok (.iload_n 1, 1) := by decide +kernel
theorem dX1_reach_2 : decode cX1_reach 2 = .ok (.ishl, 1) := by decide +kernel
theorem dX1_reach_3 : decode cX1_reach 3 = .ok (.istore_n 3, 1) := by decide +kernel
theorem dX1_reach_4 : decode cX1_reach 4 = .ok (.iconst 0, 1) := by decide +kernel
theorem dX1_reach_5 : decode cX1_reach 5 = .ok (.istore 4, 2) := by decide +kernel
theorem dX1_reach_7 : decode cX1_reach 7 = .ok (.iload 4, 2) := by decide +kernel
theorem dX1_reach_9 : decode cX1_reach 9 = .ok (.iload_n 2, 1) := by decide +kernel
theorem dX1_reach_10 : decode cX1_reach 10 = .ok (.if_icmp .ge 15, 3) := by decide +kernel
theorem dX1_reach_13 : decode cX1_reach 13 = .ok (.aload_n 0, 1) := by decide +kernel
theorem dX1_reach_14 : decode cX1_reach 14 = .ok (.iload_n 3, 1) := by decide +kernel
theorem dX1_reach_15 : decode cX1_reach 15 = .ok (.invokevirtual 15, 3) := by decide +kernel
theorem dX1_reach_18 : decode cX1_reach 18 = .ok (.istore_n 3, 1) := by decide +kernel
theorem dX1_reach_19 : decode cX1_reach 19 = .ok (.iinc 4 1, 3) := by decide +kernel
theorem dX1_reach_22 : decode cX1_reach 22 = .ok (.goto (-15), 3) := by decide +kernel
theorem dX1_reach_25 : decode cX1_reach 25 = .ok (.iload_n 3, 1) := by decide +kernel
theorem dX1_reach_26 : decode cX1_reach 26 = .ok (.ireturn, 1) := by decide +kernel
set_option maxRecDepth 20000 in
theorem ggX1_widened_X6_contains : GoodIn wsX1_widened wsX6_contains := goodIn_r _ [4] (by decide +kernel) (by decide +kernel)
set_option maxRecDepth 20000 in
theorem gX1_widened_X6_contains_n19 : GoodIn wsX1_widened (wsX6_contains) := ggX1_widened_X6_contains
theorem dX1_widened_0 : decode cX1_widened 0 = .ok (.iload_n 1, 1) := by decide +kernel
theorem dX1_widened_1 : decode cX1_widened 1 = .ok (.istore_n 2, 1) := by decide +kernel
theorem dX1_widened_2 : decode cX1_widened 2 = .ok (.iconst 0, 1) := by decide +kernel
theorem dX1_widened_3 : decode cX1_widened 3 = .ok (.istore_n 3, 1) := by decide +kernel
theorem dX1_widened_4 : decode cX1_widened 4 = .ok (.iload_n 3, 1) := by decide +kernel
theorem dX1_widened_5 : decode cX1_widened 5 = .ok (.aload_n 0, 1) := by decide +kernel
theorem dX1_widened_6 : decode cX1_widened 6 = .ok (.getfield 9, 3) := by decide +kernel
theorem dX1_widened_9 : decode cX1_widened 9 = .ok (.arraylength, 1) := by decide +kernel
theorem dX1_widened_10 : decode cX1_widened 10 = .ok (.if_icmp .ge 26, 3) := by decide +kernel
theorem dX1_widened_13 : decode cX1_widened 13 = .ok (.iload_n 1, 1) := by decide +kernel
theorem dX1_widened_14 : decode cX1_widened 14 = .ok (.iload_n 3, 1) := by decide +kernel
theorem dX1_widened_15 : decode cX1_widened 15 = .ok (.invokestatic 19, 3) := by decide +kernel
theorem dX1_widened_18 : decode cX1_widened 18 = .ok (.ifCond .eq 12, 3) := by decide +kernel
theorem dX1_widened_21 : decode cX1_widened 21 = .ok (.iload_n 2, 1) := by decide +kernel
theorem dX1_widened_22 : decode cX1_widened 22 = .ok (.aload_n 0, 1) := by decide +kernel
theorem dX1_widened_23 : decode cX1_widened 23 = .ok (.getfield 9, 3) := by decide +kernel
theorem dX1_widened_26 : decode cX1_widened 26 = .ok (.iload_n 3, 1) := by decide +kernel
theorem dX1_widened_27 : decode cX1_widened 27 = .ok (.iaload, 1) := by decide +kernel
theorem dX1_widened_28 : decode cX1_widened 28 = .ok (.ior, 1) := by decide +kernel
theorem dX1_widened_29 : decode cX1_widened 29 = .ok (.istore_n 2, 1) := by decide +kernel
theorem dX1_widened_30 : decode cX1_widened 30 = .ok (.iinc 3 1, 3) := by decide +kernel
theorem dX1_widened_33 : decode cX1_widened 33 = .ok (.goto (-29), 3) := by decide +kernel
theorem dX1_widened_36 : decode cX1_widened 36 = .ok (.iload_n 2, 1) := by decide +kernel
theorem dX1_widened_37 : decode cX1_widened 37 = .ok (.ireturn, 1) := by decide +kernel
set_option maxRecDepth 20000 in
theorem ggX2_init_X1_init : GoodIn wsX2_init wsX1_init := goodIn_r _ [13, 14, 2, 3, 4, 15, 24] (by decide +kernel) (by decide +kernel)
set_option maxRecDepth 20000 in
theorem gX2_init_X1_init_n23 : GoodIn wsX2_init (wsX1_init) := ggX2_init_X1_init
theorem dX2_init_0 : decode cX2_init 0 = .ok (.aload_n 0, 1) := by decide +kernel
theorem dX2_init_1 : decode cX2_init 1 = .ok (.invokespecial 3, 3) := by decide +kernel
theorem dX2_init_4 : decode cX2_init 4 = .ok (.aload_n 0, 1) := by decide +kernel
theorem dX2_init_5 : decode cX2_init 5 = .ok (.bipush 8, 2) := by decide +kernel
theorem dX2_init_7 : decode cX2_init 7 = .ok (.newarray .int, 2) := by decide +kernel
theorem dX2_init_9 : decode cX2_init 9 = .ok (.putfield 9, 3) := by decide +kernel
theorem dX2_init_12 : decode cX2_init 12 = .ok (.aload_n 0, 1) := by decide +kernel
theorem dX2_init_13 : decode cX2_init 13 = .ok (.bipush 8, 2) := by decide +kernel
theorem dX2_init_15 : decode cX2_init 15 = .ok (.newarray .int, 2) := by decide +kernel
theorem dX2_init_17 : decode cX2_init 17 = .ok (.putfield 15, 3) := by decide +kernel
theorem dX2_init_20 : decode cX2_init 20 = .ok (.aload_n 0, 1) := by decide +kernel
theorem dX2_init_21 : decode cX2_init 21 = .ok (.bipush 8, 2) := by decide +kernel
theorem dX2_init_23 : decode cX2_init 23 = .ok (.newarray .int, 2) := by decide +kernel
theorem dX2_init_25 : decode cX2_init 25 = .ok (.putfield 18, 3) := by decide +kernel
theorem dX2_init_28 : decode cX2_init 28 = .ok (.aload_n 0, 1) := by decide +kernel
theorem dX2_init_29 : decode cX2_init 29 = .ok (.new 21, 3) := by decide +kernel
theorem dX2_init_32 : decode cX2_init 32 = .ok (.dup, 1) := by decide +kernel
theorem dX2_init_33 : decode cX2_init 33 = .ok (.invokespecial 23, 3) := by decide +kernel
theorem dX2_init_36 : decode cX2_init 36 = .ok (.putfield 24, 3) := by decide +kernel
theorem dX2_init_39 : decode cX2_init 39 = .ok (.return_, 1) := by decide +kernel
theorem dX2_count_0 : decode cX2_count 0 = .ok (.aload_n 0, 1) := by decide +kernel
theorem dX2_count_1 : decode cX2_count 1 = .ok (.getfield 28, 3) := by decide +kernel
theorem dX2_count_4 : decode cX2_count 4 = .ok (.ireturn, 1) := by decide +kernel
theorem dX2_today_0 : decode cX2_today 0 = .ok (.aload_n 0, 1) := by decide +kernel
theorem dX2_today_1 : decode cX2_today 1 = .ok (.getfield 32, 3) := by decide +kernel
theorem dX2_today_4 : decode cX2_today 4 = .ok (.ireturn, 1) := by decide +kernel
theorem dX2_repair_0 : decode cX2_repair 0 = .ok (.aload_n 0, 1) := by decide +kernel
theorem dX2_repair_1 : decode cX2_repair 1 = .ok (.getfield 35, 3) := by decide +kernel
theorem dX2_repair_4 : decode cX2_repair 4 = .ok (.ireturn, 1) := by decide +kernel
set_option maxRecDepth 20000 in
theorem ggX2_isInForce_X6_contains : GoodIn wsX2_isInForce wsX6_contains := goodIn_r _ [6] (by decide +kernel) (by decide +kernel)
set_option maxRecDepth 20000 in
theorem gX2_isInForce_X6_contains_n41 : GoodIn wsX2_isInForce (wsX6_contains) := ggX2_isInForce_X6_contains
theorem dX2_isInForce_0 : decode cX2_isInForce 0 = .ok (.aload_n 0, 1) := by decide +kernel
theorem dX2_isInForce_1 : decode cX2_isInForce 1 = .ok (.getfield 32, 3) := by decide +kernel
theorem dX2_isInForce_4 : decode cX2_isInForce 4 = .ok (.aload_n 0, 1) := by decide +kernel
theorem dX2_isInForce_5 : decode cX2_isInForce 5 = .ok (.getfield 18, 3) := by decide +kernel
theorem dX2_isInForce_8 : decode cX2_isInForce 8 = .ok (.iload_n 1, 1) := by decide +kernel
theorem dX2_isInForce_9 : decode cX2_isInForce 9 = .ok (.iaload, 1) := by decide +kernel
theorem dX2_isInForce_10 : decode cX2_isInForce 10 = .ok (.if_icmp .gt 18, 3) := by decide +kernel
theorem dX2_isInForce_13 : decode cX2_isInForce 13 = .ok (.aload_n 0, 1) := by decide +kernel
theorem dX2_isInForce_14 : decode cX2_isInForce 14 = .ok (.getfield 38, 3) := by decide +kernel
theorem dX2_isInForce_17 : decode cX2_isInForce 17 = .ok (.iload_n 1, 1) := by decide +kernel
theorem dX2_isInForce_18 : decode cX2_isInForce 18 = .ok (.invokestatic 41, 3) := by decide +kernel
theorem dX2_isInForce_21 : decode cX2_isInForce 21 = .ok (.ifCond .ne 7, 3) := by decide +kernel
theorem dX2_isInForce_24 : decode cX2_isInForce 24 = .ok (.iconst 1, 1) := by decide +kernel
theorem dX2_isInForce_25 : decode cX2_isInForce 25 = .ok (.goto 4, 3) := by decide +kernel
theorem dX2_isInForce_28 : decode cX2_isInForce 28 = .ok (.iconst 0, 1) := by decide +kernel
theorem dX2_isInForce_29 : decode cX2_isInForce 29 = .ok (.ireturn, 1) := by decide +kernel
set_option maxRecDepth 20000 in
theorem ggX2_countInForce_X2_inForce : GoodIn wsX2_countInForce wsX2_inForce := goodIn_r _ [5, 6, 7, 8, 9, 4, 10, 11, 12, 13, 14, 15, 16, 24, 25, 26, 27, 28, 29, 30, 31] (by decide +kernel) (by decide +kernel)
set_option maxRecDepth 20000 in
theorem gX2_countInForce_X2_inForce : GoodIn wsX2_countInForce (wsV RX2 45 RX2 yX2_inForce wsX2_inForce) := goodIn_app (goodIn_of _ (by decide +kernel)) ggX2_countInForce_X2_inForce
set_option maxRecDepth 20000 in
theorem ggX2_countInForce_J6_bitCount_0f7a4 : GoodIn wsX2_countInForce wsJ6_bitCount_0f7a4 := goodIn_r _ [20, 21, 22, 23] (by decide +kernel) (by decide +kernel)
set_option maxRecDepth 20000 in
theorem gX2_countInForce_J6_bitCount_0f7a4 : GoodIn wsX2_countInForce (va_wsS RX2 49 yJ6_bitCount_0f7a4 wsJ6_bitCount_0f7a4) := goodIn_app (goodIn_of _ (by decide +kernel)) ggX2_countInForce_J6_bitCount_0f7a4
theorem dX2_countInForce_0 : decode cX2_countInForce 0 = .ok (.aload_n 0, 1) := by decide +kernel
theorem dX2_countInForce_1 : decode cX2_countInForce 1 = .ok (.invokevirtual 45, 3) := by decide +kernel
theorem dX2_countInForce_4 : decode cX2_countInForce 4 = .ok (.invokestatic 49, 3) := by decide +kernel
theorem dX2_countInForce_7 : decode cX2_countInForce 7 = .ok (.ireturn, 1) := by decide +kernel
theorem dX2_add_0 : decode cX2_add 0 = .ok (.aload_n 0, 1) := by decide +kernel
theorem dX2_add_1 : decode cX2_add 1 = .ok (.getfield 9, 3) := by decide +kernel
theorem dX2_add_4 : decode cX2_add 4 = .ok (.aload_n 0, 1) := by decide +kernel
theorem dX2_add_5 : decode cX2_add 5 = .ok (.getfield 28, 3) := by decide +kernel
theorem dX2_add_8 : decode cX2_add 8 = .ok (.iload_n 1, 1) := by decide +kernel
theorem dX2_add_9 : decode cX2_add 9 = .ok (.iload_n 2, 1) := by decide +kernel
theorem dX2_add_10 : decode cX2_add 10 = .ok (.invokestatic 55, 3) := by decide +kernel
theorem dX2_add_13 : decode cX2_add 13 = .ok (.iastore, 1) := by decide +kernel
theorem dX2_add_14 : decode cX2_add 14 = .ok (.aload_n 0, 1) := by decide +kernel
theorem dX2_add_15 : decode cX2_add 15 = .ok (.getfield 15, 3) := by decide +kernel
theorem dX2_add_18 : decode cX2_add 18 = .ok (.aload_n 0, 1) := by decide +kernel
theorem dX2_add_19 : decode cX2_add 19 = .ok (.getfield 28, 3) := by decide +kernel
theorem dX2_add_22 : decode cX2_add 22 = .ok (.iload_n 1, 1) := by decide +kernel
theorem dX2_add_23 : decode cX2_add 23 = .ok (.iload_n 2, 1) := by decide +kernel
theorem dX2_add_24 : decode cX2_add 24 = .ok (.invokestatic 61, 3) := by decide +kernel
theorem dX2_add_27 : decode cX2_add 27 = .ok (.iastore, 1) := by decide +kernel
theorem dX2_add_28 : decode cX2_add 28 = .ok (.aload_n 0, 1) := by decide +kernel
theorem dX2_add_29 : decode cX2_add 29 = .ok (.getfield 18, 3) := by decide +kernel
theorem dX2_add_32 : decode cX2_add 32 = .ok (.aload_n 0, 1) := by decide +kernel
theorem dX2_add_33 : decode cX2_add 33 = .ok (.getfield 28, 3) := by decide +kernel
theorem dX2_add_36 : decode cX2_add 36 = .ok (.aload_n 0, 1) := by decide +kernel
theorem dX2_add_37 : decode cX2_add 37 = .ok (.getfield 32, 3) := by decide +kernel
theorem dX2_add_40 : decode cX2_add 40 = .ok (.iload_n 3, 1) := by decide +kernel
theorem dX2_add_41 : decode cX2_add 41 = .ok (.iadd, 1) := by decide +kernel
theorem dX2_add_42 : decode cX2_add 42 = .ok (.iastore, 1) := by decide +kernel
theorem dX2_add_43 : decode cX2_add 43 = .ok (.aload_n 0, 1) := by decide +kernel
theorem dX2_add_44 : decode cX2_add 44 = .ok (.dup, 1) := by decide +kernel
theorem dX2_add_45 : decode cX2_add 45 = .ok (.getfield 28, 3) := by decide +kernel
theorem dX2_add_48 : decode cX2_add 48 = .ok (.iconst 1, 1) := by decide +kernel
theorem dX2_add_49 : decode cX2_add 49 = .ok (.iadd, 1) := by decide +kernel
theorem dX2_add_50 : decode cX2_add 50 = .ok (.putfield 28, 3) := by decide +kernel
theorem dX2_add_53 : decode cX2_add 53 = .ok (.aload_n 0, 1) := by decide +kernel
theorem dX2_add_54 : decode cX2_add 54 = .ok (.getfield 28, 3) := by decide +kernel
theorem dX2_add_57 : decode cX2_add 57 = .ok (.iconst 1, 1) := by decide +kernel
theorem dX2_add_58 : decode cX2_add 58 = .ok (.isub, 1) := by decide +kernel
theorem dX2_add_59 : decode cX2_add 59 = .ok (.ireturn, 1) := by decide +kernel
set_option maxRecDepth 20000 in
theorem ggX2_chained_X2_inForce : GoodIn wsX2_chained wsX2_inForce := goodIn_r _ [6, 7, 8, 9, 10, 5, 11, 12, 13, 14, 15, 16, 17, 42, 43, 44, 45, 46, 47, 48, 49] (by decide +kernel) (by decide +kernel)
set_option maxRecDepth 20000 in
theorem gX2_chained_X2_inForce : GoodIn wsX2_chained (wsV RX2 45 RX2 yX2_inForce wsX2_inForce) := goodIn_app (goodIn_of _ (by decide +kernel)) ggX2_chained_X2_inForce
set_option maxRecDepth 20000 in
theorem ggX2_chained_X2_layOut : GoodIn wsX2_chained wsX2_layOut := goodIn_r _ [21, 1, 7, 22, 23, 24, 25, 26, 27, 28, 29, 15, 16, 17, 30, 31, 32, 33, 42, 43, 44, 45, 46, 47, 48, 49, 50] (by decide +kernel) (by decide +kernel)
set_option maxRecDepth 20000 in
theorem gX2_chained_X2_layOut : GoodIn wsX2_chained (wsV RX2 71 RX2 yX2_layOut wsX2_layOut) := goodIn_app (goodIn_of _ (by decide +kernel)) ggX2_chained_X2_layOut
set_option maxRecDepth 20000 in
theorem ggX2_chained_X1_reach : GoodIn wsX2_chained wsX1_reach := goodIn_r _ [37, 38, 39, 40, 27, 41, 29, 15, 16, 17, 50] (by decide +kernel) (by decide +kernel)
set_option maxRecDepth 20000 in
theorem gX2_chained_X1_reach : GoodIn wsX2_chained (wsV RX2 75 RX1 yX1_reach wsX1_reach) := goodIn_app (goodIn_of _ (by decide +kernel)) ggX2_chained_X1_reach
theorem dX2_chained_0 : decode cX2_chained 0 = .ok (.aload_n 0, 1) := by decide +kernel
theorem dX2_chained_1 : decode cX2_chained 1 = .ok (.aload_n 0, 1) := by decide +kernel
theorem dX2_chained_2 : decode cX2_chained 2 = .ok (.invokevirtual 45, 3) := by decide +kernel
theorem dX2_chained_5 : decode cX2_chained 5 = .ok (.invokevirtual 71, 3) := by decide +kernel
theorem dX2_chained_8 : decode cX2_chained 8 = .ok (.aload_n 0, 1) := by decide +kernel
theorem dX2_chained_9 : decode cX2_chained 9 = .ok (.getfield 24, 3) := by decide +kernel
theorem dX2_chained_12 : decode cX2_chained 12 = .ok (.iload_n 1, 1) := by decide +kernel
theorem dX2_chained_13 : decode cX2_chained 13 = .ok (.bipush 7, 2) := by decide +kernel
theorem dX2_chained_15 : decode cX2_chained 15 = .ok (.invokevirtual 75, 3) := by decide +kernel
theorem dX2_chained_18 : decode cX2_chained 18 = .ok (.iconst 1, 1) := by decide +kernel
theorem dX2_chained_19 : decode cX2_chained 19 = .ok (.iload_n 1, 1) := by decide +kernel
theorem dX2_chained_20 : decode cX2_chained 20 = .ok (.ishl, 1) := by decide +kernel
theorem dX2_chained_21 : decode cX2_chained 21 = .ok (.iconst (-1), 1) := by decide +kernel
theorem dX2_chained_22 : decode cX2_chained 22 = .ok (.ixor, 1) := by decide +kernel
theorem dX2_chained_23 : decode cX2_chained 23 = .ok (.iand, 1) := by decide +kernel
theorem dX2_chained_24 : decode cX2_chained 24 = .ok (.ireturn, 1) := by decide +kernel
set_option maxRecDepth 20000 in
theorem ggX2_countLeaks_X2_inForce : GoodIn wsX2_countLeaks wsX2_inForce := goodIn_r _ [5, 6, 7, 8, 9, 4, 10, 11, 12, 13, 14, 15, 16, 64, 65, 66, 67, 68, 69, 70, 71] (by decide +kernel) (by decide +kernel)
set_option maxRecDepth 20000 in
theorem gX2_countLeaks_X2_inForce : GoodIn wsX2_countLeaks (wsV RX2 45 RX2 yX2_inForce wsX2_inForce) := goodIn_app (goodIn_of _ (by decide +kernel)) ggX2_countLeaks_X2_inForce
set_option maxRecDepth 20000 in
theorem ggX2_countLeaks_X2_leaksBy : GoodIn wsX2_countLeaks wsX2_leaksBy := goodIn_r _ [20, 21, 22, 23, 24, 4, 25, 6, 26, 27, 28, 29, 30, 31, 32, 33, 14, 15, 16, 34, 35, 36, 37, 38, 39, 40, 41, 42, 43, 44, 45, 46, 47, 48, 49, 50, 51, 52, 53, 54, 55, 56, 57, 58, 59, 60, 61, 62, 63, 64, 65, 66, 67, 68, 69, 70, 71, 72, 73, 74, 75, 76] (by decide +kernel) (by decide +kernel)
set_option maxRecDepth 20000 in
theorem gX2_countLeaks_X2_leaksBy : GoodIn wsX2_countLeaks (wsV RX2 81 RX2 yX2_leaksBy wsX2_leaksBy) := goodIn_app (goodIn_of _ (by decide +kernel)) ggX2_countLeaks_X2_leaksBy
theorem dX2_countLeaks_0 : decode cX2_countLeaks 0 = .ok (.aload_n 0, 1) := by decide +kernel
theorem dX2_countLeaks_1 : decode cX2_countLeaks 1 = .ok (.aload_n 0, 1) := by decide +kernel
theorem dX2_countLeaks_2 : decode cX2_countLeaks 2 = .ok (.invokevirtual 45, 3) := by decide +kernel
theorem dX2_countLeaks_5 : decode cX2_countLeaks 5 = .ok (.aload_n 1, 1) := by decide +kernel
theorem dX2_countLeaks_6 : decode cX2_countLeaks 6 = .ok (.invokevirtual 81, 3) := by decide +kernel
theorem dX2_countLeaks_9 : decode cX2_countLeaks 9 = .ok (.ireturn, 1) := by decide +kernel
set_option maxRecDepth 20000 in
theorem ggX2_findRepair_X2_inForce : GoodIn wsX2_findRepair wsX2_inForce := goodIn_r _ [6, 7, 8, 9, 10, 5, 11, 12, 13, 14, 15, 16, 17, 65, 66, 67, 68, 69, 70, 71, 72] (by decide +kernel) (by decide +kernel)
set_option maxRecDepth 20000 in
theorem gX2_findRepair_X2_inForce : GoodIn wsX2_findRepair (wsV RX2 45 RX2 yX2_inForce wsX2_inForce) := goodIn_app (goodIn_of _ (by decide +kernel)) ggX2_findRepair_X2_inForce
set_option maxRecDepth 20000 in
theorem ggX2_findRepair_J6_bitCount_0f7a4 : GoodIn wsX2_findRepair wsJ6_bitCount_0f7a4 := goodIn_r _ [21, 22, 23, 24] (by decide +kernel) (by decide +kernel)
set_option maxRecDepth 20000 in
theorem gX2_findRepair_J6_bitCount_0f7a4 : GoodIn wsX2_findRepair (va_wsS RX2 49 yJ6_bitCount_0f7a4 wsJ6_bitCount_0f7a4) := goodIn_app (goodIn_of _ (by decide +kernel)) ggX2_findRepair_J6_bitCount_0f7a4
set_option maxRecDepth 20000 in
theorem ggX2_findRepair_X2_leaksBy : GoodIn wsX2_findRepair wsX2_leaksBy := goodIn_r _ [28, 29, 30, 31, 32, 5, 33, 7, 34, 35, 36, 37, 38, 39, 40, 41, 15, 16, 17, 42, 43, 44, 45, 46, 47, 48, 49, 50, 51, 52, 53, 54, 55, 56, 57, 58, 59, 60, 61, 62, 63, 64, 18, 19, 20, 21, 22, 23, 24, 65, 66, 67, 68, 69, 70, 71, 72, 73, 74, 75, 76, 77] (by decide +kernel) (by decide +kernel)
set_option maxRecDepth 20000 in
theorem gX2_findRepair_X2_leaksBy : GoodIn wsX2_findRepair (wsV RX2 81 RX2 yX2_leaksBy wsX2_leaksBy) := goodIn_app (goodIn_of _ (by decide +kernel)) ggX2_findRepair_X2_leaksBy
theorem dX2_findRepair_0 : decode cX2_findRepair 0 = .ok (.aload_n 0, 1) := by decide +kernel
theorem dX2_findRepair_1 : decode cX2_findRepair 1 = .ok (.invokevirtual 45, 3) := by decide +kernel
theorem dX2_findRepair_4 : decode cX2_findRepair 4 = .ok (.istore_n 2, 1) := by decide +kernel
theorem dX2_findRepair_5 : decode cX2_findRepair 5 = .ok (.iload_n 2, 1) := by decide +kernel
theorem dX2_findRepair_6 : decode cX2_findRepair 6 = .ok (.istore_n 3, 1) := by decide +kernel
theorem dX2_findRepair_7 : decode cX2_findRepair 7 = .ok (.iconst 0, 1) := by decide +kernel
theorem dX2_findRepair_8 : decode cX2_findRepair 8 = .ok (.istore 4, 2) := by decide +kernel
theorem dX2_findRepair_10 : decode cX2_findRepair 10 = .ok (.iload 4, 2) := by decide +kernel
theorem dX2_findRepair_12 : decode cX2_findRepair 12 = .ok (.iload_n 2, 1) := by decide +kernel
theorem dX2_findRepair_13 : decode cX2_findRepair 13 = .ok (.if_icmp .ge 59, 3) := by decide +kernel
theorem dX2_findRepair_16 : decode cX2_findRepair 16 = .ok (.iload 4, 2) := by decide +kernel
theorem dX2_findRepair_18 : decode cX2_findRepair 18 = .ok (.iload_n 2, 1) := by decide +kernel
theorem dX2_findRepair_19 : decode cX2_findRepair 19 = .ok (.iconst (-1), 1) := by decide +kernel
theorem dX2_findRepair_20 : decode cX2_findRepair 20 = .ok (.ixor, 1) := by decide +kernel
theorem dX2_findRepair_21 : decode cX2_findRepair 21 = .ok (.iand, 1) := by decide +kernel
theorem dX2_findRepair_22 : decode cX2_findRepair 22 = .ok (.ifCond .ne 19, 3) := by decide +kernel
theorem dX2_findRepair_25 : decode cX2_findRepair 25 = .ok (.iload 4, 2) := by decide +kernel
theorem dX2_findRepair_27 : decode cX2_findRepair 27 = .ok (.invokestatic 49, 3) := by decide +kernel
theorem dX2_findRepair_30 : decode cX2_findRepair 30 = .ok (.iload_n 3, 1) := by decide +kernel
theorem dX2_findRepair_31 : decode cX2_findRepair 31 = .ok (.invokestatic 49, 3) := by decide +kernel
theorem dX2_findRepair_34 : decode cX2_findRepair 34 = .ok (.if_icmp .ge 7, 3) := by decide +kernel
theorem dX2_findRepair_37 : decode cX2_findRepair 37 = .ok (.iconst 1, 1) := by decide +kernel
theorem dX2_findRepair_38 : decode cX2_findRepair 38 = .ok (.goto 4, 3) := by decide +kernel
theorem dX2_findRepair_41 : decode cX2_findRepair 41 = .ok (.iconst 0, 1) := by decide +kernel
theorem dX2_findRepair_42 : decode cX2_findRepair 42 = .ok (.istore 5, 2) := by decide +kernel
theorem dX2_findRepair_44 : decode cX2_findRepair 44 = .ok (.iload 5, 2) := by decide +kernel
theorem dX2_findRepair_46 : decode cX2_findRepair 46 = .ok (.ifCond .eq 20, 3) := by decide +kernel
theorem dX2_findRepair_49 : decode cX2_findRepair 49 = .ok (.aload_n 0, 1) := by decide +kernel
theorem dX2_findRepair_50 : decode cX2_findRepair 50 = .ok (.iload_n 2, 1) := by decide +kernel
theorem dX2_findRepair_51 : decode cX2_findRepair 51 = .ok (.iload 4, 2) := by decide +kernel
theorem dX2_findRepair_53 : decode cX2_findRepair 53 = .ok (.iconst (-1), 1) := by decide +kernel
theorem dX2_findRepair_54 : decode cX2_findRepair 54 = .ok (.ixor, 1) := by decide +kernel
theorem dX2_findRepair_55 : decode cX2_findRepair 55 = .ok (.iand, 1) := by decide +kernel
theorem dX2_findRepair_56 : decode cX2_findRepair 56 = .ok (.aload_n 1, 1) := by decide +kernel
theorem dX2_findRepair_57 : decode cX2_findRepair 57 = .ok (.invokevirtual 81, 3) := by decide +kernel
theorem dX2_findRepair_60 : decode cX2_findRepair 60 = .ok (.ifCond .ne 6, 3) := by decide +kernel
theorem dX2_findRepair_63 : decode cX2_findRepair 63 = .ok (.iload 4, 2) := by decide +kernel
theorem dX2_findRepair_65 : decode cX2_findRepair 65 = .ok (.istore_n 3, 1) := by decide +kernel
theorem dX2_findRepair_66 : decode cX2_findRepair 66 = .ok (.iinc 4 1, 3) := by decide +kernel
theorem dX2_findRepair_69 : decode cX2_findRepair 69 = .ok (.goto (-59), 3) := by decide +kernel
theorem dX2_findRepair_72 : decode cX2_findRepair 72 = .ok (.aload_n 0, 1) := by decide +kernel
theorem dX2_findRepair_73 : decode cX2_findRepair 73 = .ok (.iload_n 3, 1) := by decide +kernel
theorem dX2_findRepair_74 : decode cX2_findRepair 74 = .ok (.putfield 35, 3) := by decide +kernel
theorem dX2_findRepair_77 : decode cX2_findRepair 77 = .ok (.return_, 1) := by decide +kernel
set_option maxRecDepth 20000 in
theorem ggX2_areSound_X2_inForce : GoodIn wsX2_areSound wsX2_inForce := goodIn_r _ [6, 7, 8, 9, 10, 5, 11, 12, 13, 14, 15, 16, 17, 65, 66, 67, 68, 69, 70, 71, 72] (by decide +kernel) (by decide +kernel)
set_option maxRecDepth 20000 in
theorem gX2_areSound_X2_inForce : GoodIn wsX2_areSound (wsV RX2 45 RX2 yX2_inForce wsX2_inForce) := goodIn_app (goodIn_of _ (by decide +kernel)) ggX2_areSound_X2_inForce
set_option maxRecDepth 20000 in
theorem ggX2_areSound_X2_leaksBy : GoodIn wsX2_areSound wsX2_leaksBy := goodIn_r _ [21, 22, 23, 24, 25, 5, 26, 7, 27, 28, 29, 30, 31, 32, 33, 34, 15, 16, 17, 35, 36, 37, 38, 39, 40, 41, 42, 43, 44, 45, 46, 47, 48, 49, 50, 51, 52, 53, 54, 55, 56, 57, 58, 59, 60, 61, 62, 63, 64, 65, 66, 67, 68, 69, 70, 71, 72, 73, 74, 75, 76, 77] (by decide +kernel) (by decide +kernel)
set_option maxRecDepth 20000 in
theorem gX2_areSound_X2_leaksBy : GoodIn wsX2_areSound (wsV RX2 81 RX2 yX2_leaksBy wsX2_leaksBy) := goodIn_app (goodIn_of _ (by decide +kernel)) ggX2_areSound_X2_leaksBy
theorem dX2_areSound_0 : decode cX2_areSound 0 = .ok (.aload_n 0, 1) := by decide +kernel
theorem dX2_areSound_1 : decode cX2_areSound 1 = .ok (.aload_n 0, 1) := by decide +kernel
theorem dX2_areSound_2 : decode cX2_areSound 2 = .ok (.invokevirtual 45, 3) := by decide +kernel
theorem dX2_areSound_5 : decode cX2_areSound 5 = .ok (.aload_n 0, 1) := by decide +kernel
theorem dX2_areSound_6 : decode cX2_areSound 6 = .ok (.getfield 35, 3) := by decide +kernel
theorem dX2_areSound_9 : decode cX2_areSound 9 = .ok (.iconst (-1), 1) := by decide +kernel
theorem dX2_areSound_10 : decode cX2_areSound 10 = .ok (.ixor, 1) := by decide +kernel
theorem dX2_areSound_11 : decode cX2_areSound 11 = .ok (.iand, 1) := by decide +kernel
theorem dX2_areSound_12 : decode cX2_areSound 12 = .ok (.aload_n 1, 1) := by decide +kernel
theorem dX2_areSound_13 : decode cX2_areSound 13 = .ok (.invokevirtual 81, 3) := by decide +kernel
theorem dX2_areSound_16 : decode cX2_areSound 16 = .ok (.ifCond .ne 7, 3) := by decide +kernel
theorem dX2_areSound_19 : decode cX2_areSound 19 = .ok (.iconst 1, 1) := by decide +kernel
theorem dX2_areSound_20 : decode cX2_areSound 20 = .ok (.goto 4, 3) := by decide +kernel
theorem dX2_areSound_23 : decode cX2_areSound 23 = .ok (.iconst 0, 1) := by decide +kernel
theorem dX2_areSound_24 : decode cX2_areSound 24 = .ok (.ireturn, 1) := by decide +kernel
set_option maxRecDepth 20000 in
theorem ggX2_inForce_X2_isInForce : GoodIn wsX2_inForce wsX2_isInForce := goodIn_r _ [6, 7, 8, 9, 10, 11, 12, 13, 14, 15, 16, 17, 18, 19, 20] (by decide +kernel) (by decide +kernel)
set_option maxRecDepth 20000 in
theorem gX2_inForce_X2_isInForce : GoodIn wsX2_inForce (wsV RX2 64 RX2 yX2_isInForce wsX2_isInForce) := goodIn_app (goodIn_of _ (by decide +kernel)) ggX2_inForce_X2_isInForce
theorem dX2_inForce_0 : decode cX2_inForce 0 = .ok (.iconst 0, 1) := by decide +kernel
theorem dX2_inForce_1 : decode cX2_inForce 1 = .ok (.istore_n 1, 1) := by decide +kernel
theorem dX2_inForce_2 : decode cX2_inForce 2 = .ok (.iconst 0, 1) := by decide +kernel
theorem dX2_inForce_3 : decode cX2_inForce 3 = .ok (.istore_n 2, 1) := by decide +kernel
theorem dX2_inForce_4 : decode cX2_inForce 4 = .ok (.iload_n 2, 1) := by decide +kernel
theorem dX2_inForce_5 : decode cX2_inForce 5 = .ok (.aload_n 0, 1) := by decide +kernel
theorem dX2_inForce_6 : decode cX2_inForce 6 = .ok (.getfield 28, 3) := by decide +kernel
theorem dX2_inForce_9 : decode cX2_inForce 9 = .ok (.if_icmp .ge 23, 3) := by decide +kernel
theorem dX2_inForce_12 : decode cX2_inForce 12 = .ok (.aload_n 0, 1) := by decide +kernel
theorem dX2_inForce_13 : decode cX2_inForce 13 = .ok (.iload_n 2, 1) := by decide +kernel
theorem dX2_inForce_14 : decode cX2_inForce 14 = .ok (.invokevirtual 64, 3) := by decide +kernel
theorem dX2_inForce_17 : decode cX2_inForce 17 = .ok (.ifCond .eq 9, 3) := by decide +kernel
theorem dX2_inForce_20 : decode cX2_inForce 20 = .ok (.iload_n 1, 1) := by decide +kernel
theorem dX2_inForce_21 : decode cX2_inForce 21 = .ok (.iconst 1, 1) := by decide +kernel
theorem dX2_inForce_22 : decode cX2_inForce 22 = .ok (.iload_n 2, 1) := by decide +kernel
theorem dX2_inForce_23 : decode cX2_inForce 23 = .ok (.ishl, 1) := by decide +kernel
theorem dX2_inForce_24 : decode cX2_inForce 24 = .ok (.ior, 1) := by decide +kernel
theorem dX2_inForce_25 : decode cX2_inForce 25 = .ok (.istore_n 1, 1) := by decide +kernel
theorem dX2_inForce_26 : decode cX2_inForce 26 = .ok (.iinc 2 1, 3) := by decide +kernel
theorem dX2_inForce_29 : decode cX2_inForce 29 = .ok (.goto (-25), 3) := by decide +kernel
theorem dX2_inForce_32 : decode cX2_inForce 32 = .ok (.iload_n 1, 1) := by decide +kernel
theorem dX2_inForce_33 : decode cX2_inForce 33 = .ok (.ireturn, 1) := by decide +kernel
set_option maxRecDepth 20000 in
theorem ggX2_layOut_X1_cutAll : GoodIn wsX2_layOut wsX1_cutAll := goodIn_r _ [9, 10, 26] (by decide +kernel) (by decide +kernel)
set_option maxRecDepth 20000 in
theorem gX2_layOut_X1_cutAll : GoodIn wsX2_layOut (wsV RX2 85 RX1 yX1_cutAll wsX1_cutAll) := goodIn_app (goodIn_of _ (by decide +kernel)) ggX2_layOut_X1_cutAll
set_option maxRecDepth 20000 in
theorem ggX2_layOut_X6_contains : GoodIn wsX2_layOut wsX6_contains := goodIn_r _ [13] (by decide +kernel) (by decide +kernel)
set_option maxRecDepth 20000 in
theorem gX2_layOut_X6_contains_n41 : GoodIn wsX2_layOut (wsX6_contains) := ggX2_layOut_X6_contains
set_option maxRecDepth 20000 in
theorem ggX2_layOut_X1_link : GoodIn wsX2_layOut wsX1_link := goodIn_r _ [17, 10, 26] (by decide +kernel) (by decide +kernel)
set_option maxRecDepth 20000 in
theorem gX2_layOut_X1_link : GoodIn wsX2_layOut (wsV RX2 88 RX1 yX1_link wsX1_link) := goodIn_app (goodIn_of _ (by decide +kernel)) ggX2_layOut_X1_link
theorem dX2_layOut_0 : decode cX2_layOut 0 = .ok (.aload_n 0, 1) := by decide +kernel
theorem dX2_layOut_1 : decode cX2_layOut 1 = .ok (.getfield 24, 3) := by decide +kernel
theorem dX2_layOut_4 : decode cX2_layOut 4 = .ok (.invokevirtual 85, 3) := by decide +kernel
theorem dX2_layOut_7 : decode cX2_layOut 7 = .ok (.iconst 0, 1) := by decide +kernel
theorem dX2_layOut_8 : decode cX2_layOut 8 = .ok (.istore_n 2, 1) := by decide +kernel
theorem dX2_layOut_9 : decode cX2_layOut 9 = .ok (.iload_n 2, 1) := by decide +kernel
theorem dX2_layOut_10 : decode cX2_layOut 10 = .ok (.aload_n 0, 1) := by decide +kernel
theorem dX2_layOut_11 : decode cX2_layOut 11 = .ok (.getfield 28, 3) := by decide +kernel
theorem dX2_layOut_14 : decode cX2_layOut 14 = .ok (.if_icmp .ge 36, 3) := by decide +kernel
theorem dX2_layOut_17 : decode cX2_layOut 17 = .ok (.iload_n 1, 1) := by decide +kernel
theorem dX2_layOut_18 : decode cX2_layOut 18 = .ok (.iload_n 2, 1) := by decide +kernel
theorem dX2_layOut_19 : decode cX2_layOut 19 = .ok (.invokestatic 41, 3) := by decide +kernel
theorem dX2_layOut_22 : decode cX2_layOut 22 = .ok (.ifCond .eq 22, 3) := by decide +kernel
theorem dX2_layOut_25 : decode cX2_layOut 25 = .ok (.aload_n 0, 1) := by decide +kernel
theorem dX2_layOut_26 : decode cX2_layOut 26 = .ok (.getfield 24, 3) := by decide +kernel
theorem dX2_layOut_29 : decode cX2_layOut 29 = .ok (.aload_n 0, 1) := by decide +kernel
theorem dX2_layOut_30 : decode cX2_layOut 30 = .ok (.getfield 9, 3) := by decide +kernel
theorem dX2_layOut_33 : decode cX2_layOut 33 = .ok (.iload_n 2, 1) := by decide +kernel
theorem dX2_layOut_34 : decode cX2_layOut 34 = .ok (.iaload, 1) := by decide +kernel
theorem dX2_layOut_35 : decode cX2_layOut 35 = .ok (.aload_n 0, 1) := by decide +kernel
theorem dX2_layOut_36 : decode cX2_layOut 36 = .ok (.getfield 15, 3) := by decide +kernel
theorem dX2_layOut_39 : decode cX2_layOut 39 = .ok (.iload_n 2, 1) := by decide +kernel
theorem dX2_layOut_40 : decode cX2_layOut 40 = .ok (.iaload, 1) := by decide +kernel
theorem dX2_layOut_41 : decode cX2_layOut 41 = .ok (.invokevirtual 88, 3) := by decide +kernel
theorem dX2_layOut_44 : decode cX2_layOut 44 = .ok (.iinc 2 1, 3) := by decide +kernel
theorem dX2_layOut_47 : decode cX2_layOut 47 = .ok (.goto (-38), 3) := by decide +kernel
theorem dX2_layOut_50 : decode cX2_layOut 50 = .ok (.return_, 1) := by decide +kernel
set_option maxRecDepth 20000 in
theorem ggX2_leaksBy_X2_layOut : GoodIn wsX2_leaksBy wsX2_layOut := goodIn_r _ [6, 1, 7, 8, 9, 10, 11, 12, 13, 14, 15, 16, 17, 18, 19, 20, 21, 22, 49, 50, 51, 52, 53, 54, 55, 56, 57] (by decide +kernel) (by decide +kernel)
set_option maxRecDepth 20000 in
theorem gX2_leaksBy_X2_layOut : GoodIn wsX2_leaksBy (wsV RX2 71 RX2 yX2_layOut wsX2_layOut) := goodIn_app (goodIn_of _ (by decide +kernel)) ggX2_leaksBy_X2_layOut
set_option maxRecDepth 20000 in
theorem ggX2_leaksBy_X0_count : GoodIn wsX2_leaksBy wsX0_count := goodIn_r _ [27, 28, 58, 59, 60, 61] (by decide +kernel) (by decide +kernel)
set_option maxRecDepth 20000 in
theorem gX2_leaksBy_X0_count : GoodIn wsX2_leaksBy (wsV RX2 92 RX0 yX0_count wsX0_count) := goodIn_app (goodIn_of _ (by decide +kernel)) ggX2_leaksBy_X0_count
set_option maxRecDepth 20000 in
theorem ggX2_leaksBy_X0_within : GoodIn wsX2_leaksBy wsX0_within := goodIn_r _ [32, 33, 58, 59, 60, 61] (by decide +kernel) (by decide +kernel)
set_option maxRecDepth 20000 in
theorem gX2_leaksBy_X0_within : GoodIn wsX2_leaksBy (wsV RX2 96 RX0 yX0_within wsX0_within) := goodIn_app (goodIn_of _ (by decide +kernel)) ggX2_leaksBy_X0_within
set_option maxRecDepth 20000 in
theorem ggX2_leaksBy_X1_reach : GoodIn wsX2_leaksBy wsX1_reach := goodIn_r _ [37, 38, 39, 40, 13, 41, 15, 16, 17, 18, 57] (by decide +kernel) (by decide +kernel)
set_option maxRecDepth 20000 in
theorem gX2_leaksBy_X1_reach : GoodIn wsX2_leaksBy (wsV RX2 75 RX1 yX1_reach wsX1_reach) := goodIn_app (goodIn_of _ (by decide +kernel)) ggX2_leaksBy_X1_reach
set_option maxRecDepth 20000 in
theorem ggX2_leaksBy_J6_bitCount_0f7a4 : GoodIn wsX2_leaksBy wsJ6_bitCount_0f7a4 := goodIn_r _ [45, 46, 47, 48] (by decide +kernel) (by decide +kernel)
set_option maxRecDepth 20000 in
theorem gX2_leaksBy_J6_bitCount_0f7a4 : GoodIn wsX2_leaksBy (va_wsS RX2 49 yJ6_bitCount_0f7a4 wsJ6_bitCount_0f7a4) := goodIn_app (goodIn_of _ (by decide +kernel)) ggX2_leaksBy_J6_bitCount_0f7a4
theorem dX2_leaksBy_0 : decode cX2_leaksBy 0 = .ok (.aload_n 0, 1) := by decide +kernel
theorem dX2_leaksBy_1 : decode cX2_leaksBy 1 = .ok (.iload_n 1, 1) := by decide +kernel
theorem dX2_leaksBy_2 : decode cX2_leaksBy 2 = .ok (.invokevirtual 71, 3) := by decide +kernel
theorem dX2_leaksBy_5 : decode cX2_leaksBy 5 = .ok (.iconst 0, 1) := by decide +kernel
theorem dX2_leaksBy_6 : decode cX2_leaksBy 6 = .ok (.istore_n 3, 1) := by decide +kernel
theorem dX2_leaksBy_7 : decode cX2_leaksBy 7 = .ok (.iconst 0, 1) := by decide +kernel
theorem dX2_leaksBy_8 : decode cX2_leaksBy 8 = .ok (.istore 4, 2) := by decide +kernel
theorem dX2_leaksBy_10 : decode cX2_leaksBy 10 = .ok (.iload 4, 2) := by decide +kernel
theorem dX2_leaksBy_12 : decode cX2_leaksBy 12 = .ok (.aload_n 2, 1) := by decide +kernel
theorem dX2_leaksBy_13 : decode cX2_leaksBy 13 = .ok (.invokevirtual 92, 3) := by decide +kernel
theorem dX2_leaksBy_16 : decode cX2_leaksBy 16 = .ok (.if_icmp .ge 47, 3) := by decide +kernel
theorem dX2_leaksBy_19 : decode cX2_leaksBy 19 = .ok (.aload_n 2, 1) := by decide +kernel
theorem dX2_leaksBy_20 : decode cX2_leaksBy 20 = .ok (.iload 4, 2) := by decide +kernel
theorem dX2_leaksBy_22 : decode cX2_leaksBy 22 = .ok (.invokevirtual 96, 3) := by decide +kernel
theorem dX2_leaksBy_25 : decode cX2_leaksBy 25 = .ok (.istore 5, 2) := by decide +kernel
theorem dX2_leaksBy_27 : decode cX2_leaksBy 27 = .ok (.iload 5, 2) := by decide +kernel
theorem dX2_leaksBy_29 : decode cX2_leaksBy 29 = .ok (.ifCond .eq 28, 3) := by decide +kernel
theorem dX2_leaksBy_32 : decode cX2_leaksBy 32 = .ok (.iload_n 3, 1) := by decide +kernel
theorem dX2_leaksBy_33 : decode cX2_leaksBy 33 = .ok (.aload_n 0, 1) := by decide +kernel
theorem dX2_leaksBy_34 : decode cX2_leaksBy 34 = .ok (.getfield 24, 3) := by decide +kernel
theorem dX2_leaksBy_37 : decode cX2_leaksBy 37 = .ok (.iload 4, 2) := by decide +kernel
theorem dX2_leaksBy_39 : decode cX2_leaksBy 39 = .ok (.bipush 7, 2) := by decide +kernel
theorem dX2_leaksBy_41 : decode cX2_leaksBy 41 = .ok (.invokevirtual 75, 3) := by decide +kernel
theorem dX2_leaksBy_44 : decode cX2_leaksBy 44 = .ok (.iload 5, 2) := by decide +kernel
theorem dX2_leaksBy_46 : decode cX2_leaksBy 46 = .ok (.iand, 1) := by decide +kernel
theorem dX2_leaksBy_47 : decode cX2_leaksBy 47 = .ok (.iload 4, 2) := by decide +kernel
theorem dX2_leaksBy_49 : decode cX2_leaksBy 49 = .ok (.iconst 1, 1) := by decide +kernel
theorem dX2_leaksBy_50 : decode cX2_leaksBy 50 = .ok (.iadd, 1) := by decide +kernel
theorem dX2_leaksBy_51 : decode cX2_leaksBy 51 = .ok (.ishr, 1) := by decide +kernel
theorem dX2_leaksBy_52 : decode cX2_leaksBy 52 = .ok (.invokestatic 49, 3) := by decide +kernel
theorem dX2_leaksBy_55 : decode cX2_leaksBy 55 = .ok (.iadd, 1) := by decide +kernel
theorem dX2_leaksBy_56 : decode cX2_leaksBy 56 = .ok (.istore_n 3, 1) := by decide +kernel
theorem dX2_leaksBy_57 : decode cX2_leaksBy 57 = .ok (.iinc 4 1, 3) := by decide +kernel
theorem dX2_leaksBy_60 : decode cX2_leaksBy 60 = .ok (.goto (-50), 3) := by decide +kernel
theorem dX2_leaksBy_63 : decode cX2_leaksBy 63 = .ok (.iload_n 3, 1) := by decide +kernel
theorem dX2_leaksBy_64 : decode cX2_leaksBy 64 = .ok (.ireturn, 1) := by decide +kernel
theorem dX3_init_0 : decode cX3_init 0 = .ok (.aload_n 0, 1) := by decide +kernel
theorem dX3_init_1 : decode cX3_init 1 = .ok (.invokespecial 3, 3) := by decide +kernel
theorem dX3_init_4 : decode cX3_init 4 = .ok (.aload_n 0, 1) := by decide +kernel
theorem dX3_init_5 : decode cX3_init 5 = .ok (.bipush 8, 2) := by decide +kernel
theorem dX3_init_7 : decode cX3_init 7 = .ok (.bipush 8, 2) := by decide +kernel
theorem dX3_init_9 : decode cX3_init 9 = .ok (.multianewarray 9 2, 4) := by decide +kernel
theorem dX3_init_13 : decode cX3_init 13 = .ok (.putfield 11, 3) := by decide +kernel
theorem dX3_init_16 : decode cX3_init 16 = .ok (.aload_n 0, 1) := by decide +kernel
theorem dX3_init_17 : decode cX3_init 17 = .ok (.bipush 8, 2) := by decide +kernel
theorem dX3_init_19 : decode cX3_init 19 = .ok (.newarray .int, 2) := by decide +kernel
end
section
theorem dX3_init_21 : decode cX3_init 21 = .ok (.putfield 16, 3) := by decide +kernel
theorem dX3_init_24 : decode cX3_init 24 = .ok (.return_, 1) := by decide +kernel
theorem dX3_forgetAll_0 : decode cX3_forgetAll 0 = .ok (.aload_n 0, 1) := by decide +kernel
theorem dX3_forgetAll_1 : decode cX3_forgetAll 1 = .ok (.iconst 0, 1) := by decide +kernel
theorem dX3_forgetAll_2 : decode cX3_forgetAll 2 = .ok (.putfield 20, 3) := by decide +kernel
theorem dX3_forgetAll_5 : decode cX3_forgetAll 5 = .ok (.return_, 1) := by decide +kernel
set_option maxRecDepth 20000 in
theorem ggX3_add_X3_firstOfRest : GoodIn wsX3_add wsX3_firstOfRest := goodIn_r _ [8, 2, 3, 9, 10, 11, 12, 13, 14, 7, 15, 1, 16, 17, 18] (by decide +kernel) (by decide +kernel)
set_option maxRecDepth 20000 in
theorem gX3_add_X3_firstOfRest : GoodIn wsX3_add (wsV RX3 24 RX3 yX3_firstOfRest wsX3_firstOfRest) := goodIn_app (goodIn_of _ (by decide +kernel)) ggX3_add_X3_firstOfRest
set_option maxRecDepth 20000 in
theorem ggX3_add_X6_contains : GoodIn wsX3_add wsX6_contains := goodIn_r _ [11] (by decide +kernel) (by decide +kernel)
set_option maxRecDepth 20000 in
theorem gX3_add_X6_contains_n28 : GoodIn wsX3_add (wsX6_contains) := ggX3_add_X6_contains
set_option maxRecDepth 20000 in
theorem ggX3_add_X3_clearAt : GoodIn wsX3_add wsX3_clearAt := goodIn_r _ [15, 1, 16, 17, 18] (by decide +kernel) (by decide +kernel)
set_option maxRecDepth 20000 in
theorem gX3_add_X3_clearAt : GoodIn wsX3_add (wsV RX3 32 RX3 yX3_clearAt wsX3_clearAt) := goodIn_app (goodIn_of _ (by decide +kernel)) ggX3_add_X3_clearAt
theorem dX3_add_0 : decode cX3_add 0 = .ok (.aload_n 0, 1) := by decide +kernel
theorem dX3_add_1 : decode cX3_add 1 = .ok (.iload_n 1, 1) := by decide +kernel
theorem dX3_add_2 : decode cX3_add 2 = .ok (.invokevirtual 24, 3) := by decide +kernel
theorem dX3_add_5 : decode cX3_add 5 = .ok (.istore_n 2, 1) := by decide +kernel
theorem dX3_add_6 : decode cX3_add 6 = .ok (.iload_n 2, 1) := by decide +kernel
theorem dX3_add_7 : decode cX3_add 7 = .ok (.iconst (-1), 1) := by decide +kernel
theorem dX3_add_8 : decode cX3_add 8 = .ok (.if_icmp .ne 4, 3) := by decide +kernel
theorem dX3_add_11 : decode cX3_add 11 = .ok (.return_, 1) := by decide +kernel
theorem dX3_add_12 : decode cX3_add 12 = .ok (.iconst 0, 1) := by decide +kernel
theorem dX3_add_13 : decode cX3_add 13 = .ok (.istore_n 3, 1) := by decide +kernel
theorem dX3_add_14 : decode cX3_add 14 = .ok (.iload_n 3, 1) := by decide +kernel
theorem dX3_add_15 : decode cX3_add 15 = .ok (.bipush 8, 2) := by decide +kernel
theorem dX3_add_17 : decode cX3_add 17 = .ok (.if_icmp .ge 23, 3) := by decide +kernel
theorem dX3_add_20 : decode cX3_add 20 = .ok (.aload_n 0, 1) := by decide +kernel
theorem dX3_add_21 : decode cX3_add 21 = .ok (.getfield 11, 3) := by decide +kernel
theorem dX3_add_24 : decode cX3_add 24 = .ok (.iload_n 2, 1) := by decide +kernel
theorem dX3_add_25 : decode cX3_add 25 = .ok (.aaload, 1) := by decide +kernel
theorem dX3_add_26 : decode cX3_add 26 = .ok (.iload_n 3, 1) := by decide +kernel
theorem dX3_add_27 : decode cX3_add 27 = .ok (.aload_n 0, 1) := by decide +kernel
theorem dX3_add_28 : decode cX3_add 28 = .ok (.getfield 16, 3) := by decide +kernel
theorem dX3_add_31 : decode cX3_add 31 = .ok (.iload_n 3, 1) := by decide +kernel
theorem dX3_add_32 : decode cX3_add 32 = .ok (.iaload, 1) := by decide +kernel
theorem dX3_add_33 : decode cX3_add 33 = .ok (.iastore, 1) := by decide +kernel
theorem dX3_add_34 : decode cX3_add 34 = .ok (.iinc 3 1, 3) := by decide +kernel
theorem dX3_add_37 : decode cX3_add 37 = .ok (.goto (-23), 3) := by decide +kernel
theorem dX3_add_40 : decode cX3_add 40 = .ok (.iconst 0, 1) := by decide +kernel
theorem dX3_add_41 : decode cX3_add 41 = .ok (.istore_n 3, 1) := by decide +kernel
theorem dX3_add_42 : decode cX3_add 42 = .ok (.iload_n 3, 1) := by decide +kernel
theorem dX3_add_43 : decode cX3_add 43 = .ok (.bipush 8, 2) := by decide +kernel
theorem dX3_add_45 : decode cX3_add 45 = .ok (.if_icmp .ge 31, 3) := by decide +kernel
theorem dX3_add_48 : decode cX3_add 48 = .ok (.aload_n 0, 1) := by decide +kernel
theorem dX3_add_49 : decode cX3_add 49 = .ok (.getfield 20, 3) := by decide +kernel
theorem dX3_add_52 : decode cX3_add 52 = .ok (.iload_n 3, 1) := by decide +kernel
theorem dX3_add_53 : decode cX3_add 53 = .ok (.invokestatic 28, 3) := by decide +kernel
theorem dX3_add_56 : decode cX3_add 56 = .ok (.ifCond .eq 14, 3) := by decide +kernel
theorem dX3_add_59 : decode cX3_add 59 = .ok (.aload_n 0, 1) := by decide +kernel
theorem dX3_add_60 : decode cX3_add 60 = .ok (.aload_n 0, 1) := by decide +kernel
theorem dX3_add_61 : decode cX3_add 61 = .ok (.getfield 11, 3) := by decide +kernel
theorem dX3_add_64 : decode cX3_add 64 = .ok (.iload_n 3, 1) := by decide +kernel
theorem dX3_add_65 : decode cX3_add 65 = .ok (.aaload, 1) := by decide +kernel
theorem dX3_add_66 : decode cX3_add 66 = .ok (.iload_n 2, 1) := by decide +kernel
theorem dX3_add_67 : decode cX3_add 67 = .ok (.invokevirtual 32, 3) := by decide +kernel
theorem dX3_add_70 : decode cX3_add 70 = .ok (.iinc 3 1, 3) := by decide +kernel
theorem dX3_add_73 : decode cX3_add 73 = .ok (.goto (-31), 3) := by decide +kernel
theorem dX3_add_76 : decode cX3_add 76 = .ok (.aload_n 0, 1) := by decide +kernel
theorem dX3_add_77 : decode cX3_add 77 = .ok (.dup, 1) := by decide +kernel
theorem dX3_add_78 : decode cX3_add 78 = .ok (.getfield 20, 3) := by decide +kernel
theorem dX3_add_81 : decode cX3_add 81 = .ok (.iconst 1, 1) := by decide +kernel
theorem dX3_add_82 : decode cX3_add 82 = .ok (.iload_n 2, 1) := by decide +kernel
theorem dX3_add_83 : decode cX3_add 83 = .ok (.ishl, 1) := by decide +kernel
theorem dX3_add_84 : decode cX3_add 84 = .ok (.ior, 1) := by decide +kernel
theorem dX3_add_85 : decode cX3_add 85 = .ok (.putfield 20, 3) := by decide +kernel
theorem dX3_add_88 : decode cX3_add 88 = .ok (.return_, 1) := by decide +kernel
set_option maxRecDepth 20000 in
theorem ggX3_holds_X3_firstOfRest : GoodIn wsX3_holds wsX3_firstOfRest := goodIn_r _ [5, 6, 7, 8, 9, 10, 11, 12, 13, 4, 14, 15, 16, 17, 18] (by decide +kernel) (by decide +kernel)
set_option maxRecDepth 20000 in
theorem gX3_holds_X3_firstOfRest : GoodIn wsX3_holds (wsV RX3 24 RX3 yX3_firstOfRest wsX3_firstOfRest) := goodIn_app (goodIn_of _ (by decide +kernel)) ggX3_holds_X3_firstOfRest
theorem dX3_holds_0 : decode cX3_holds 0 = .ok (.aload_n 0, 1) := by decide +kernel
theorem dX3_holds_1 : decode cX3_holds 1 = .ok (.iload_n 1, 1) := by decide +kernel
theorem dX3_holds_2 : decode cX3_holds 2 = .ok (.invokevirtual 24, 3) := by decide +kernel
theorem dX3_holds_5 : decode cX3_holds 5 = .ok (.iconst (-1), 1) := by decide +kernel
theorem dX3_holds_6 : decode cX3_holds 6 = .ok (.if_icmp .ne 7, 3) := by decide +kernel
theorem dX3_holds_9 : decode cX3_holds 9 = .ok (.iconst 1, 1) := by decide +kernel
theorem dX3_holds_10 : decode cX3_holds 10 = .ok (.goto 4, 3) := by decide +kernel
theorem dX3_holds_13 : decode cX3_holds 13 = .ok (.iconst 0, 1) := by decide +kernel
theorem dX3_holds_14 : decode cX3_holds 14 = .ok (.ireturn, 1) := by decide +kernel
set_option maxRecDepth 20000 in
theorem ggX3_alone_X6_contains : GoodIn wsX3_alone wsX6_contains := goodIn_r _ [5] (by decide +kernel) (by decide +kernel)
set_option maxRecDepth 20000 in
theorem gX3_alone_X6_contains_n28 : GoodIn wsX3_alone (wsX6_contains) := ggX3_alone_X6_contains
set_option maxRecDepth 20000 in
theorem ggX3_alone_X3_isAlone : GoodIn wsX3_alone wsX3_isAlone := goodIn_r _ [9] (by decide +kernel) (by decide +kernel)
set_option maxRecDepth 20000 in
theorem gX3_alone_X3_isAlone : GoodIn wsX3_alone (va_wsS RX3 41 yX3_isAlone wsX3_isAlone) := goodIn_app (goodIn_of _ (by decide +kernel)) ggX3_alone_X3_isAlone
theorem dX3_alone_0 : decode cX3_alone 0 = .ok (.iconst 0, 1) := by decide +kernel
theorem dX3_alone_1 : decode cX3_alone 1 = .ok (.istore_n 1, 1) := by decide +kernel
theorem dX3_alone_2 : decode cX3_alone 2 = .ok (.iconst 0, 1) := by decide +kernel
theorem dX3_alone_3 : decode cX3_alone 3 = .ok (.istore_n 2, 1) := by decide +kernel
theorem dX3_alone_4 : decode cX3_alone 4 = .ok (.iload_n 2, 1) := by decide +kernel
theorem dX3_alone_5 : decode cX3_alone 5 = .ok (.bipush 8, 2) := by decide +kernel
theorem dX3_alone_7 : decode cX3_alone 7 = .ok (.if_icmp .ge 38, 3) := by decide +kernel
theorem dX3_alone_10 : decode cX3_alone 10 = .ok (.aload_n 0, 1) := by decide +kernel
theorem dX3_alone_11 : decode cX3_alone 11 = .ok (.getfield 20, 3) := by decide +kernel
theorem dX3_alone_14 : decode cX3_alone 14 = .ok (.iload_n 2, 1) := by decide +kernel
theorem dX3_alone_15 : decode cX3_alone 15 = .ok (.invokestatic 28, 3) := by decide +kernel
theorem dX3_alone_18 : decode cX3_alone 18 = .ok (.ifCond .eq 21, 3) := by decide +kernel
theorem dX3_alone_21 : decode cX3_alone 21 = .ok (.aload_n 0, 1) := by decide +kernel
theorem dX3_alone_22 : decode cX3_alone 22 = .ok (.getfield 11, 3) := by decide +kernel
theorem dX3_alone_25 : decode cX3_alone 25 = .ok (.iload_n 2, 1) := by decide +kernel
theorem dX3_alone_26 : decode cX3_alone 26 = .ok (.aaload, 1) := by decide +kernel
theorem dX3_alone_27 : decode cX3_alone 27 = .ok (.invokestatic 41, 3) := by decide +kernel
theorem dX3_alone_30 : decode cX3_alone 30 = .ok (.ifCond .eq 9, 3) := by decide +kernel
theorem dX3_alone_33 : decode cX3_alone 33 = .ok (.iload_n 1, 1) := by decide +kernel
theorem dX3_alone_34 : decode cX3_alone 34 = .ok (.iconst 1, 1) := by decide +kernel
theorem dX3_alone_35 : decode cX3_alone 35 = .ok (.iload_n 2, 1) := by decide +kernel
theorem dX3_alone_36 : decode cX3_alone 36 = .ok (.ishl, 1) := by decide +kernel
theorem dX3_alone_37 : decode cX3_alone 37 = .ok (.ior, 1) := by decide +kernel
theorem dX3_alone_38 : decode cX3_alone 38 = .ok (.istore_n 1, 1) := by decide +kernel
theorem dX3_alone_39 : decode cX3_alone 39 = .ok (.iinc 2 1, 3) := by decide +kernel
theorem dX3_alone_42 : decode cX3_alone 42 = .ok (.goto (-38), 3) := by decide +kernel
theorem dX3_alone_45 : decode cX3_alone 45 = .ok (.iload_n 1, 1) := by decide +kernel
theorem dX3_alone_46 : decode cX3_alone 46 = .ok (.ireturn, 1) := by decide +kernel
theorem dX3_isAlone_0 : decode cX3_isAlone 0 = .ok (.iconst 0, 1) := by decide +kernel
theorem dX3_isAlone_1 : decode cX3_isAlone 1 = .ok (.istore_n 1, 1) := by decide +kernel
theorem dX3_isAlone_2 : decode cX3_isAlone 2 = .ok (.iconst 0, 1) := by decide +kernel
theorem dX3_isAlone_3 : decode cX3_isAlone 3 = .ok (.istore_n 2, 1) := by decide +kernel
theorem dX3_isAlone_4 : decode cX3_isAlone 4 = .ok (.iload_n 2, 1) := by decide +kernel
theorem dX3_isAlone_5 : decode cX3_isAlone 5 = .ok (.aload_n 0, 1) := by decide +kernel
theorem dX3_isAlone_6 : decode cX3_isAlone 6 = .ok (.arraylength, 1) := by decide +kernel
theorem dX3_isAlone_7 : decode cX3_isAlone 7 = .ok (.if_icmp .ge 18, 3) := by decide +kernel
theorem dX3_isAlone_10 : decode cX3_isAlone 10 = .ok (.aload_n 0, 1) := by decide +kernel
theorem dX3_isAlone_11 : decode cX3_isAlone 11 = .ok (.iload_n 2, 1) := by decide +kernel
theorem dX3_isAlone_12 : decode cX3_isAlone 12 = .ok (.iaload, 1) := by decide +kernel
theorem dX3_isAlone_13 : decode cX3_isAlone 13 = .ok (.ifCond .eq 6, 3) := by decide +kernel
theorem dX3_isAlone_16 : decode cX3_isAlone 16 = .ok (.iinc 1 1, 3) := by decide +kernel
theorem dX3_isAlone_19 : decode cX3_isAlone 19 = .ok (.iinc 2 1, 3) := by decide +kernel
theorem dX3_isAlone_22 : decode cX3_isAlone 22 = .ok (.goto (-18), 3) := by decide +kernel
theorem dX3_isAlone_25 : decode cX3_isAlone 25 = .ok (.iload_n 1, 1) := by decide +kernel
theorem dX3_isAlone_26 : decode cX3_isAlone 26 = .ok (.iconst 1, 1) := by decide +kernel
theorem dX3_isAlone_27 : decode cX3_isAlone 27 = .ok (.if_icmp .ne 7, 3) := by decide +kernel
theorem dX3_isAlone_30 : decode cX3_isAlone 30 = .ok (.iconst 1, 1) := by decide +kernel
theorem dX3_isAlone_31 : decode cX3_isAlone 31 = .ok (.goto 4, 3) := by decide +kernel
theorem dX3_isAlone_34 : decode cX3_isAlone 34 = .ok (.iconst 0, 1) := by decide +kernel
theorem dX3_isAlone_35 : decode cX3_isAlone 35 = .ok (.ireturn, 1) := by decide +kernel
set_option maxRecDepth 20000 in
theorem ggX3_firstOfRest_X6_contains : GoodIn wsX3_firstOfRest wsX6_contains := goodIn_r _ [5] (by decide +kernel) (by decide +kernel)
set_option maxRecDepth 20000 in
theorem gX3_firstOfRest_X6_contains_n28 : GoodIn wsX3_firstOfRest (wsX6_contains) := ggX3_firstOfRest_X6_contains
set_option maxRecDepth 20000 in
theorem ggX3_firstOfRest_X3_clearAt : GoodIn wsX3_firstOfRest wsX3_clearAt := goodIn_r _ [10, 11, 12, 13, 14] (by decide +kernel) (by decide +kernel)
set_option maxRecDepth 20000 in
theorem gX3_firstOfRest_X3_clearAt : GoodIn wsX3_firstOfRest (wsV RX3 32 RX3 yX3_clearAt wsX3_clearAt) := goodIn_app (goodIn_of _ (by decide +kernel)) ggX3_firstOfRest_X3_clearAt
theorem dX3_firstOfRest_0 : decode cX3_firstOfRest 0 = .ok (.iconst 0, 1) := by decide +kernel
theorem dX3_firstOfRest_1 : decode cX3_firstOfRest 1 = .ok (.istore_n 2, 1) := by decide +kernel
theorem dX3_firstOfRest_2 : decode cX3_firstOfRest 2 = .ok (.iload_n 2, 1) := by decide +kernel
theorem dX3_firstOfRest_3 : decode cX3_firstOfRest 3 = .ok (.bipush 8, 2) := by decide +kernel
theorem dX3_firstOfRest_5 : decode cX3_firstOfRest 5 = .ok (.if_icmp .ge 28, 3) := by decide +kernel
theorem dX3_firstOfRest_8 : decode cX3_firstOfRest 8 = .ok (.aload_n 0, 1) := by decide +kernel
theorem dX3_firstOfRest_9 : decode cX3_firstOfRest 9 = .ok (.getfield 16, 3) := by decide +kernel
theorem dX3_firstOfRest_12 : decode cX3_firstOfRest 12 = .ok (.iload_n 2, 1) := by decide +kernel
theorem dX3_firstOfRest_13 : decode cX3_firstOfRest 13 = .ok (.iload_n 1, 1) := by decide +kernel
theorem dX3_firstOfRest_14 : decode cX3_firstOfRest 14 = .ok (.iload_n 2, 1) := by decide +kernel
theorem dX3_firstOfRest_15 : decode cX3_firstOfRest 15 = .ok (.invokestatic 28, 3) := by decide +kernel
theorem dX3_firstOfRest_18 : decode cX3_firstOfRest 18 = .ok (.ifCond .eq 7, 3) := by decide +kernel
theorem dX3_firstOfRest_21 : decode cX3_firstOfRest 21 = .ok (.iconst 1, 1) := by decide +kernel
theorem dX3_firstOfRest_22 : decode cX3_firstOfRest 22 = .ok (.goto 4, 3) := by decide +kernel
theorem dX3_firstOfRest_25 : decode cX3_firstOfRest 25 = .ok (.iconst 0, 1) := by decide +kernel
theorem dX3_firstOfRest_26 : decode cX3_firstOfRest 26 = .ok (.iastore, 1) := by decide +kernel
theorem dX3_firstOfRest_27 : decode cX3_firstOfRest 27 = .ok (.iinc 2 1, 3) := by decide +kernel
theorem dX3_firstOfRest_30 : decode cX3_firstOfRest 30 = .ok (.goto (-28), 3) := by decide +kernel
theorem dX3_firstOfRest_33 : decode cX3_firstOfRest 33 = .ok (.iconst 0, 1) := by decide +kernel
theorem dX3_firstOfRest_34 : decode cX3_firstOfRest 34 = .ok (.istore_n 2, 1) := by decide +kernel
theorem dX3_firstOfRest_35 : decode cX3_firstOfRest 35 = .ok (.iload_n 2, 1) := by decide +kernel
theorem dX3_firstOfRest_36 : decode cX3_firstOfRest 36 = .ok (.bipush 8, 2) := by decide +kernel
theorem dX3_firstOfRest_38 : decode cX3_firstOfRest 38 = .ok (.if_icmp .ge 29, 3) := by decide +kernel
theorem dX3_firstOfRest_41 : decode cX3_firstOfRest 41 = .ok (.aload_n 0, 1) := by decide +kernel
theorem dX3_firstOfRest_42 : decode cX3_firstOfRest 42 = .ok (.getfield 20, 3) := by decide +kernel
theorem dX3_firstOfRest_45 : decode cX3_firstOfRest 45 = .ok (.iload_n 2, 1) := by decide +kernel
theorem dX3_firstOfRest_46 : decode cX3_firstOfRest 46 = .ok (.invokestatic 28, 3) := by decide +kernel
theorem dX3_firstOfRest_49 : decode cX3_firstOfRest 49 = .ok (.ifCond .eq 12, 3) := by decide +kernel
theorem dX3_firstOfRest_52 : decode cX3_firstOfRest 52 = .ok (.aload_n 0, 1) := by decide +kernel
theorem dX3_firstOfRest_53 : decode cX3_firstOfRest 53 = .ok (.aload_n 0, 1) := by decide +kernel
theorem dX3_firstOfRest_54 : decode cX3_firstOfRest 54 = .ok (.getfield 16, 3) := by decide +kernel
theorem dX3_firstOfRest_57 : decode cX3_firstOfRest 57 = .ok (.iload_n 2, 1) := by decide +kernel
theorem dX3_firstOfRest_58 : decode cX3_firstOfRest 58 = .ok (.invokevirtual 32, 3) := by decide +kernel
theorem dX3_firstOfRest_61 : decode cX3_firstOfRest 61 = .ok (.iinc 2 1, 3) := by decide +kernel
theorem dX3_firstOfRest_64 : decode cX3_firstOfRest 64 = .ok (.goto (-29), 3) := by decide +kernel
theorem dX3_firstOfRest_67 : decode cX3_firstOfRest 67 = .ok (.iconst 0, 1) := by decide +kernel
theorem dX3_firstOfRest_68 : decode cX3_firstOfRest 68 = .ok (.istore_n 2, 1) := by decide +kernel
theorem dX3_firstOfRest_69 : decode cX3_firstOfRest 69 = .ok (.iload_n 2, 1) := by decide +kernel
theorem dX3_firstOfRest_70 : decode cX3_firstOfRest 70 = .ok (.bipush 8, 2) := by decide +kernel
theorem dX3_firstOfRest_72 : decode cX3_firstOfRest 72 = .ok (.if_icmp .ge 20, 3) := by decide +kernel
theorem dX3_firstOfRest_75 : decode cX3_firstOfRest 75 = .ok (.aload_n 0, 1) := by decide +kernel
theorem dX3_firstOfRest_76 : decode cX3_firstOfRest 76 = .ok (.getfield 16, 3) := by decide +kernel
theorem dX3_firstOfRest_79 : decode cX3_firstOfRest 79 = .ok (.iload_n 2, 1) := by decide +kernel
theorem dX3_firstOfRest_80 : decode cX3_firstOfRest 80 = .ok (.iaload, 1) := by decide +kernel
theorem dX3_firstOfRest_81 : decode cX3_firstOfRest 81 = .ok (.ifCond .eq 5, 3) := by decide +kernel
theorem dX3_firstOfRest_84 : decode cX3_firstOfRest 84 = .ok (.iload_n 2, 1) := by decide +kernel
theorem dX3_firstOfRest_85 : decode cX3_firstOfRest 85 = .ok (.ireturn, 1) := by decide +kernel
theorem dX3_firstOfRest_86 : decode cX3_firstOfRest 86 = .ok (.iinc 2 1, 3) := by decide +kernel
theorem dX3_firstOfRest_89 : decode cX3_firstOfRest 89 = .ok (.goto (-20), 3) := by decide +kernel
theorem dX3_firstOfRest_92 : decode cX3_firstOfRest 92 = .ok (.iconst (-1), 1) := by decide +kernel
theorem dX3_firstOfRest_93 : decode cX3_firstOfRest 93 = .ok (.ireturn, 1) := by decide +kernel
theorem dX3_clearAt_0 : decode cX3_clearAt 0 = .ok (.aload_n 0, 1) := by decide +kernel
theorem dX3_clearAt_1 : decode cX3_clearAt 1 = .ok (.getfield 11, 3) := by decide +kernel
theorem dX3_clearAt_4 : decode cX3_clearAt 4 = .ok (.iload_n 2, 1) := by decide +kernel
theorem dX3_clearAt_5 : decode cX3_clearAt 5 = .ok (.aaload, 1) := by decide +kernel
theorem dX3_clearAt_6 : decode cX3_clearAt 6 = .ok (.astore_n 3, 1) := by decide +kernel
theorem dX3_clearAt_7 : decode cX3_clearAt 7 = .ok (.aload_n 3, 1) := by decide +kernel
theorem dX3_clearAt_8 : decode cX3_clearAt 8 = .ok (.iload_n 2, 1) := by decide +kernel
theorem dX3_clearAt_9 : decode cX3_clearAt 9 = .ok (.iaload, 1) := by decide +kernel
theorem dX3_clearAt_10 : decode cX3_clearAt 10 = .ok (.istore 4, 2) := by decide +kernel
theorem dX3_clearAt_12 : decode cX3_clearAt 12 = .ok (.aload_n 1, 1) := by decide +kernel
theorem dX3_clearAt_13 : decode cX3_clearAt 13 = .ok (.iload_n 2, 1) := by decide +kernel
theorem dX3_clearAt_14 : decode cX3_clearAt 14 = .ok (.iaload, 1) := by decide +kernel
theorem dX3_clearAt_15 : decode cX3_clearAt 15 = .ok (.istore 5, 2) := by decide +kernel
theorem dX3_clearAt_17 : decode cX3_clearAt 17 = .ok (.iload 5, 2) := by decide +kernel
theorem dX3_clearAt_19 : decode cX3_clearAt 19 = .ok (.ifCond .ne 4, 3) := by decide +kernel
theorem dX3_clearAt_22 : decode cX3_clearAt 22 = .ok (.return_, 1) := by decide +kernel
theorem dX3_clearAt_23 : decode cX3_clearAt 23 = .ok (.iconst 0, 1) := by decide +kernel
theorem dX3_clearAt_24 : decode cX3_clearAt 24 = .ok (.istore 6, 2) := by decide +kernel
theorem dX3_clearAt_26 : decode cX3_clearAt 26 = .ok (.iload 6, 2) := by decide +kernel
theorem dX3_clearAt_28 : decode cX3_clearAt 28 = .ok (.bipush 8, 2) := by decide +kernel
theorem dX3_clearAt_30 : decode cX3_clearAt 30 = .ok (.if_icmp .ge 32, 3) := by decide +kernel
theorem dX3_clearAt_33 : decode cX3_clearAt 33 = .ok (.aload_n 1, 1) := by decide +kernel
theorem dX3_clearAt_34 : decode cX3_clearAt 34 = .ok (.iload 6, 2) := by decide +kernel
theorem dX3_clearAt_36 : decode cX3_clearAt 36 = .ok (.aload_n 1, 1) := by decide +kernel
theorem dX3_clearAt_37 : decode cX3_clearAt 37 = .ok (.iload 6, 2) := by decide +kernel
theorem dX3_clearAt_39 : decode cX3_clearAt 39 = .ok (.iaload, 1) := by decide +kernel
theorem dX3_clearAt_40 : decode cX3_clearAt 40 = .ok (.iload 4, 2) := by decide +kernel
theorem dX3_clearAt_42 : decode cX3_clearAt 42 = .ok (.imul, 1) := by decide +kernel
theorem dX3_clearAt_43 : decode cX3_clearAt 43 = .ok (.aload_n 3, 1) := by decide +kernel
theorem dX3_clearAt_44 : decode cX3_clearAt 44 = .ok (.iload 6, 2) := by decide +kernel
theorem dX3_clearAt_46 : decode cX3_clearAt 46 = .ok (.iaload, 1) := by decide +kernel
theorem dX3_clearAt_47 : decode cX3_clearAt 47 = .ok (.iload 5, 2) := by decide +kernel
theorem dX3_clearAt_49 : decode cX3_clearAt 49 = .ok (.imul, 1) := by decide +kernel
theorem dX3_clearAt_50 : decode cX3_clearAt 50 = .ok (.isub, 1) := by decide +kernel
theorem dX3_clearAt_51 : decode cX3_clearAt 51 = .ok (.sipush 1009, 3) := by decide +kernel
theorem dX3_clearAt_54 : decode cX3_clearAt 54 = .ok (.irem, 1) := by decide +kernel
theorem dX3_clearAt_55 : decode cX3_clearAt 55 = .ok (.iastore, 1) := by decide +kernel
theorem dX3_clearAt_56 : decode cX3_clearAt 56 = .ok (.iinc 6 1, 3) := by decide +kernel
theorem dX3_clearAt_59 : decode cX3_clearAt 59 = .ok (.goto (-33), 3) := by decide +kernel
theorem dX3_clearAt_62 : decode cX3_clearAt 62 = .ok (.return_, 1) := by decide +kernel
set_option maxRecDepth 20000 in
theorem ggX4_init_X1_init : GoodIn wsX4_init wsX1_init := goodIn_r _ [19, 20, 2, 3, 4, 21, 37] (by decide +kernel) (by decide +kernel)
set_option maxRecDepth 20000 in
theorem gX4_init_X1_init_n17 : GoodIn wsX4_init (wsX1_init) := ggX4_init_X1_init
set_option maxRecDepth 20000 in
theorem ggX4_init_X3_init : GoodIn wsX4_init wsX3_init := goodIn_r _ [23, 24, 2, 3, 25, 4, 26, 27, 38, 39, 40] (by decide +kernel) (by decide +kernel)
set_option maxRecDepth 20000 in
theorem gX4_init_X3_init_n33 : GoodIn wsX4_init (wsX3_init) := ggX4_init_X3_init
theorem dX4_init_0 : decode cX4_init 0 = .ok (.aload_n 0, 1) := by decide +kernel
theorem dX4_init_1 : decode cX4_init 1 = .ok (.invokespecial 3, 3) := by decide +kernel
theorem dX4_init_4 : decode cX4_init 4 = .ok (.aload_n 0, 1) := by decide +kernel
theorem dX4_init_5 : decode cX4_init 5 = .ok (.bipush 8, 2) := by decide +kernel
theorem dX4_init_7 : decode cX4_init 7 = .ok (.newarray .int, 2) := by decide +kernel
theorem dX4_init_9 : decode cX4_init 9 = .ok (.putfield 9, 3) := by decide +kernel
theorem dX4_init_12 : decode cX4_init 12 = .ok (.aload_n 0, 1) := by decide +kernel
theorem dX4_init_13 : decode cX4_init 13 = .ok (.new 15, 3) := by decide +kernel
theorem dX4_init_16 : decode cX4_init 16 = .ok (.dup, 1) := by decide +kernel
theorem dX4_init_17 : decode cX4_init 17 = .ok (.invokespecial 17, 3) := by decide +kernel
theorem dX4_init_20 : decode cX4_init 20 = .ok (.putfield 18, 3) := by decide +kernel
theorem dX4_init_23 : decode cX4_init 23 = .ok (.aload_n 0, 1) := by decide +kernel
theorem dX4_init_24 : decode cX4_init 24 = .ok (.sipush 256, 3) := by decide +kernel
theorem dX4_init_27 : decode cX4_init 27 = .ok (.newarray .int, 2) := by decide +kernel
theorem dX4_init_29 : decode cX4_init 29 = .ok (.putfield 22, 3) := by decide +kernel
theorem dX4_init_32 : decode cX4_init 32 = .ok (.aload_n 0, 1) := by decide +kernel
theorem dX4_init_33 : decode cX4_init 33 = .ok (.iconst 4, 1) := by decide +kernel
theorem dX4_init_34 : decode cX4_init 34 = .ok (.newarray .int, 2) := by decide +kernel
theorem dX4_init_36 : decode cX4_init 36 = .ok (.putfield 25, 3) := by decide +kernel
theorem dX4_init_39 : decode cX4_init 39 = .ok (.aload_n 0, 1) := by decide +kernel
theorem dX4_init_40 : decode cX4_init 40 = .ok (.iconst 4, 1) := by decide +kernel
theorem dX4_init_41 : decode cX4_init 41 = .ok (.newarray .int, 2) := by decide +kernel
theorem dX4_init_43 : decode cX4_init 43 = .ok (.putfield 28, 3) := by decide +kernel
theorem dX4_init_46 : decode cX4_init 46 = .ok (.aload_n 0, 1) := by decide +kernel
theorem dX4_init_47 : decode cX4_init 47 = .ok (.new 31, 3) := by decide +kernel
theorem dX4_init_50 : decode cX4_init 50 = .ok (.dup, 1) := by decide +kernel
theorem dX4_init_51 : decode cX4_init 51 = .ok (.invokespecial 33, 3) := by decide +kernel
theorem dX4_init_54 : decode cX4_init 54 = .ok (.putfield 34, 3) := by decide +kernel
theorem dX4_init_57 : decode cX4_init 57 = .ok (.aload_n 0, 1) := by decide +kernel
theorem dX4_init_58 : decode cX4_init 58 = .ok (.iconst 2, 1) := by decide +kernel
theorem dX4_init_59 : decode cX4_init 59 = .ok (.putfield 38, 3) := by decide +kernel
theorem dX4_init_62 : decode cX4_init 62 = .ok (.return_, 1) := by decide +kernel
theorem dX4_people_0 : decode cX4_people 0 = .ok (.aload_n 0, 1) := by decide +kernel
theorem dX4_people_1 : decode cX4_people 1 = .ok (.getfield 42, 3) := by decide +kernel
theorem dX4_people_4 : decode cX4_people 4 = .ok (.ireturn, 1) := by decide +kernel
theorem dX4_everybody_0 : decode cX4_everybody 0 = .ok (.iconst 1, 1) := by decide +kernel
theorem dX4_everybody_1 : decode cX4_everybody 1 = .ok (.aload_n 0, 1) := by decide +kernel
theorem dX4_everybody_2 : decode cX4_everybody 2 = .ok (.getfield 42, 3) := by decide +kernel
theorem dX4_everybody_5 : decode cX4_everybody 5 = .ok (.ishl, 1) := by decide +kernel
theorem dX4_everybody_6 : decode cX4_everybody 6 = .ok (.iconst 1, 1) := by decide +kernel
theorem dX4_everybody_7 : decode cX4_everybody 7 = .ok (.isub, 1) := by decide +kernel
theorem dX4_everybody_8 : decode cX4_everybody 8 = .ok (.ireturn, 1) := by decide +kernel
theorem dX4_askers_0 : decode cX4_askers 0 = .ok (.aload_n 0, 1) := by decide +kernel
theorem dX4_askers_1 : decode cX4_askers 1 = .ok (.getfield 45, 3) := by decide +kernel
theorem dX4_askers_4 : decode cX4_askers 4 = .ok (.ireturn, 1) := by decide +kernel
theorem dX4_leastNow_0 : decode cX4_leastNow 0 = .ok (.aload_n 0, 1) := by decide +kernel
theorem dX4_leastNow_1 : decode cX4_leastNow 1 = .ok (.getfield 38, 3) := by decide +kernel
theorem dX4_leastNow_4 : decode cX4_leastNow 4 = .ok (.ireturn, 1) := by decide +kernel
theorem dX4_knowsAsker_0 : decode cX4_knowsAsker 0 = .ok (.iload_n 1, 1) := by decide +kernel
theorem dX4_knowsAsker_1 : decode cX4_knowsAsker 1 = .ok (.ifCond .lt 15, 3) := by decide +kernel
theorem dX4_knowsAsker_4 : decode cX4_knowsAsker 4 = .ok (.iload_n 1, 1) := by decide +kernel
theorem dX4_knowsAsker_5 : decode cX4_knowsAsker 5 = .ok (.aload_n 0, 1) := by decide +kernel
theorem dX4_knowsAsker_6 : decode cX4_knowsAsker 6 = .ok (.getfield 45, 3) := by decide +kernel
theorem dX4_knowsAsker_9 : decode cX4_knowsAsker 9 = .ok (.if_icmp .ge 7, 3) := by decide +kernel
theorem dX4_knowsAsker_12 : decode cX4_knowsAsker 12 = .ok (.iconst 1, 1) := by decide +kernel
theorem dX4_knowsAsker_13 : decode cX4_knowsAsker 13 = .ok (.goto 4, 3) := by decide +kernel
theorem dX4_knowsAsker_16 : decode cX4_knowsAsker 16 = .ok (.iconst 0, 1) := by decide +kernel
theorem dX4_knowsAsker_17 : decode cX4_knowsAsker 17 = .ok (.ireturn, 1) := by decide +kernel
set_option maxRecDepth 20000 in
theorem ggX4_knowsPeople_X4_everybody : GoodIn wsX4_knowsPeople wsX4_everybody := goodIn_r _ [5, 6, 7, 8, 9, 10, 11, 12, 13, 14, 15] (by decide +kernel) (by decide +kernel)
set_option maxRecDepth 20000 in
theorem gX4_knowsPeople_X4_everybody : GoodIn wsX4_knowsPeople (wsV RX4 48 RX4 yX4_everybody wsX4_everybody) := goodIn_app (goodIn_of _ (by decide +kernel)) ggX4_knowsPeople_X4_everybody
theorem dX4_knowsPeople_0 : decode cX4_knowsPeople 0 = .ok (.iload_n 1, 1) := by decide +kernel
theorem dX4_knowsPeople_1 : decode cX4_knowsPeople 1 = .ok (.ifCond .lt 15, 3) := by decide +kernel
theorem dX4_knowsPeople_4 : decode cX4_knowsPeople 4 = .ok (.iload_n 1, 1) := by decide +kernel
theorem dX4_knowsPeople_5 : decode cX4_knowsPeople 5 = .ok (.aload_n 0, 1) := by decide +kernel
theorem dX4_knowsPeople_6 : decode cX4_knowsPeople 6 = .ok (.invokevirtual 48, 3) := by decide +kernel
theorem dX4_knowsPeople_9 : decode cX4_knowsPeople 9 = .ok (.if_icmp .gt 7, 3) := by decide +kernel
theorem dX4_knowsPeople_12 : decode cX4_knowsPeople 12 = .ok (.iconst 1, 1) := by decide +kernel
theorem dX4_knowsPeople_13 : decode cX4_knowsPeople 13 = .ok (.goto 4, 3) := by decide +kernel
theorem dX4_knowsPeople_16 : decode cX4_knowsPeople 16 = .ok (.iconst 0, 1) := by decide +kernel
theorem dX4_knowsPeople_17 : decode cX4_knowsPeople 17 = .ok (.ireturn, 1) := by decide +kernel
theorem dX4_addPerson_0 : decode cX4_addPerson 0 = .ok (.aload_n 0, 1) := by decide +kernel
theorem dX4_addPerson_1 : decode cX4_addPerson 1 = .ok (.getfield 9, 3) := by decide +kernel
theorem dX4_addPerson_4 : decode cX4_addPerson 4 = .ok (.aload_n 0, 1) := by decide +kernel
theorem dX4_addPerson_5 : decode cX4_addPerson 5 = .ok (.getfield 42, 3) := by decide +kernel
theorem dX4_addPerson_8 : decode cX4_addPerson 8 = .ok (.iload_n 1, 1) := by decide +kernel
theorem dX4_addPerson_9 : decode cX4_addPerson 9 = .ok (.iastore, 1) := by decide +kernel
theorem dX4_addPerson_10 : decode cX4_addPerson 10 = .ok (.aload_n 0, 1) := by decide +kernel
theorem dX4_addPerson_11 : decode cX4_addPerson 11 = .ok (.dup, 1) := by decide +kernel
theorem dX4_addPerson_12 : decode cX4_addPerson 12 = .ok (.getfield 42, 3) := by decide +kernel
theorem dX4_addPerson_15 : decode cX4_addPerson 15 = .ok (.iconst 1, 1) := by decide +kernel
theorem dX4_addPerson_16 : decode cX4_addPerson 16 = .ok (.iadd, 1) := by decide +kernel
theorem dX4_addPerson_17 : decode cX4_addPerson 17 = .ok (.putfield 42, 3) := by decide +kernel
theorem dX4_addPerson_20 : decode cX4_addPerson 20 = .ok (.aload_n 0, 1) := by decide +kernel
theorem dX4_addPerson_21 : decode cX4_addPerson 21 = .ok (.getfield 42, 3) := by decide +kernel
theorem dX4_addPerson_24 : decode cX4_addPerson 24 = .ok (.iconst 1, 1) := by decide +kernel
theorem dX4_addPerson_25 : decode cX4_addPerson 25 = .ok (.isub, 1) := by decide +kernel
theorem dX4_addPerson_26 : decode cX4_addPerson 26 = .ok (.ireturn, 1) := by decide +kernel
theorem dX4_addAsker_0 : decode cX4_addAsker 0 = .ok (.aload_n 0, 1) := by decide +kernel
theorem dX4_addAsker_1 : decode cX4_addAsker 1 = .ok (.dup, 1) := by decide +kernel
theorem dX4_addAsker_2 : decode cX4_addAsker 2 = .ok (.getfield 45, 3) := by decide +kernel
theorem dX4_addAsker_5 : decode cX4_addAsker 5 = .ok (.iconst 1, 1) := by decide +kernel
theorem dX4_addAsker_6 : decode cX4_addAsker 6 = .ok (.iadd, 1) := by decide +kernel
theorem dX4_addAsker_7 : decode cX4_addAsker 7 = .ok (.putfield 45, 3) := by decide +kernel
theorem dX4_addAsker_10 : decode cX4_addAsker 10 = .ok (.aload_n 0, 1) := by decide +kernel
theorem dX4_addAsker_11 : decode cX4_addAsker 11 = .ok (.getfield 45, 3) := by decide +kernel
theorem dX4_addAsker_14 : decode cX4_addAsker 14 = .ok (.iconst 1, 1) := by decide +kernel
theorem dX4_addAsker_15 : decode cX4_addAsker 15 = .ok (.isub, 1) := by decide +kernel
theorem dX4_addAsker_16 : decode cX4_addAsker 16 = .ok (.ireturn, 1) := by decide +kernel
set_option maxRecDepth 20000 in
theorem ggX4_tell_J6_bitCount_0f7a4 : GoodIn wsX4_tell wsJ6_bitCount_0f7a4 := goodIn_r _ [8, 9, 10, 11] (by decide +kernel) (by decide +kernel)
set_option maxRecDepth 20000 in
theorem gX4_tell_J6_bitCount_0f7a4 : GoodIn wsX4_tell (va_wsS RX4 52 yJ6_bitCount_0f7a4 wsJ6_bitCount_0f7a4) := goodIn_app (goodIn_of _ (by decide +kernel)) ggX4_tell_J6_bitCount_0f7a4
set_option maxRecDepth 20000 in
theorem ggX4_tell_X4_givenAwayWith : GoodIn wsX4_tell wsX4_givenAwayWith := goodIn_r _ [16, 17, 18, 19, 20, 15, 21, 22, 23, 24, 25, 26, 27, 28, 29, 30, 31, 32, 33, 34, 35, 36, 37, 38, 39, 3, 40, 41, 42, 43, 44, 45, 46, 47, 48, 49, 50, 51, 52, 53, 54, 55, 56, 57, 58, 59, 60, 61, 62, 63, 64, 65, 66, 73, 74, 75, 76, 77, 78, 79, 80, 81, 82, 83, 84, 85] (by decide +kernel) (by decide +kernel)
set_option maxRecDepth 20000 in
theorem gX4_tell_X4_givenAwayWith : GoodIn wsX4_tell (wsV RX4 58 RX4 yX4_givenAwayWith wsX4_givenAwayWith) := goodIn_app (goodIn_of _ (by decide +kernel)) ggX4_tell_X4_givenAwayWith
set_option maxRecDepth 20000 in
theorem ggX4_tell_X4_sumOf : GoodIn wsX4_tell wsX4_sumOf := goodIn_r _ [70, 71, 72, 33, 34, 35, 73, 74, 75, 76, 77, 78, 79, 80, 81] (by decide +kernel) (by decide +kernel)
set_option maxRecDepth 20000 in
theorem gX4_tell_X4_sumOf : GoodIn wsX4_tell (wsV RX4 62 RX4 yX4_sumOf wsX4_sumOf) := goodIn_app (goodIn_of _ (by decide +kernel)) ggX4_tell_X4_sumOf
theorem dX4_tell_0 : decode cX4_tell 0 = .ok (.iload_n 2, 1) := by decide +kernel
theorem dX4_tell_1 : decode cX4_tell 1 = .ok (.invokestatic 52, 3) := by decide +kernel
theorem dX4_tell_4 : decode cX4_tell 4 = .ok (.aload_n 0, 1) := by decide +kernel
theorem dX4_tell_5 : decode cX4_tell 5 = .ok (.getfield 38, 3) := by decide +kernel
theorem dX4_tell_8 : decode cX4_tell 8 = .ok (.if_icmp .lt 12, 3) := by decide +kernel
theorem dX4_tell_11 : decode cX4_tell 11 = .ok (.aload_n 0, 1) := by decide +kernel
theorem dX4_tell_12 : decode cX4_tell 12 = .ok (.iload_n 1, 1) := by decide +kernel
theorem dX4_tell_13 : decode cX4_tell 13 = .ok (.iload_n 2, 1) := by decide +kernel
theorem dX4_tell_14 : decode cX4_tell 14 = .ok (.invokevirtual 58, 3) := by decide +kernel
theorem dX4_tell_17 : decode cX4_tell 17 = .ok (.ifCond .eq 15, 3) := by decide +kernel
theorem dX4_tell_20 : decode cX4_tell 20 = .ok (.aload_n 0, 1) := by decide +kernel
theorem dX4_tell_21 : decode cX4_tell 21 = .ok (.getfield 28, 3) := by decide +kernel
theorem dX4_tell_24 : decode cX4_tell 24 = .ok (.iload_n 1, 1) := by decide +kernel
theorem dX4_tell_25 : decode cX4_tell 25 = .ok (.dup2, 1) := by decide +kernel
theorem dX4_tell_26 : decode cX4_tell 26 = .ok (.iaload, 1) := by decide +kernel
theorem dX4_tell_27 : decode cX4_tell 27 = .ok (.iconst 1, 1) := by decide +kernel
theorem dX4_tell_28 : decode cX4_tell 28 = .ok (.iadd, 1) := by decide +kernel
theorem dX4_tell_29 : decode cX4_tell 29 = .ok (.iastore, 1) := by decide +kernel
theorem dX4_tell_30 : decode cX4_tell 30 = .ok (.iconst (-1), 1) := by decide +kernel
theorem dX4_tell_31 : decode cX4_tell 31 = .ok (.ireturn, 1) := by decide +kernel
theorem dX4_tell_32 : decode cX4_tell 32 = .ok (.aload_n 0, 1) := by decide +kernel
theorem dX4_tell_33 : decode cX4_tell 33 = .ok (.getfield 22, 3) := by decide +kernel
theorem dX4_tell_36 : decode cX4_tell 36 = .ok (.iload_n 2, 1) := by decide +kernel
theorem dX4_tell_37 : decode cX4_tell 37 = .ok (.dup2, 1) := by decide +kernel
theorem dX4_tell_38 : decode cX4_tell 38 = .ok (.iaload, 1) := by decide +kernel
theorem dX4_tell_39 : decode cX4_tell 39 = .ok (.iconst 1, 1) := by decide +kernel
theorem dX4_tell_40 : decode cX4_tell 40 = .ok (.iload_n 1, 1) := by decide +kernel
theorem dX4_tell_41 : decode cX4_tell 41 = .ok (.ishl, 1) := by decide +kernel
theorem dX4_tell_42 : decode cX4_tell 42 = .ok (.ior, 1) := by decide +kernel
theorem dX4_tell_43 : decode cX4_tell 43 = .ok (.iastore, 1) := by decide +kernel
theorem dX4_tell_44 : decode cX4_tell 44 = .ok (.aload_n 0, 1) := by decide +kernel
theorem dX4_tell_45 : decode cX4_tell 45 = .ok (.getfield 25, 3) := by decide +kernel
theorem dX4_tell_48 : decode cX4_tell 48 = .ok (.iload_n 1, 1) := by decide +kernel
theorem dX4_tell_49 : decode cX4_tell 49 = .ok (.dup2, 1) := by decide +kernel
theorem dX4_tell_50 : decode cX4_tell 50 = .ok (.iaload, 1) := by decide +kernel
theorem dX4_tell_51 : decode cX4_tell 51 = .ok (.iconst 1, 1) := by decide +kernel
theorem dX4_tell_52 : decode cX4_tell 52 = .ok (.iadd, 1) := by decide +kernel
theorem dX4_tell_53 : decode cX4_tell 53 = .ok (.iastore, 1) := by decide +kernel
theorem dX4_tell_54 : decode cX4_tell 54 = .ok (.aload_n 0, 1) := by decide +kernel
theorem dX4_tell_55 : decode cX4_tell 55 = .ok (.iload_n 2, 1) := by decide +kernel
theorem dX4_tell_56 : decode cX4_tell 56 = .ok (.invokevirtual 62, 3) := by decide +kernel
theorem dX4_tell_59 : decode cX4_tell 59 = .ok (.ireturn, 1) := by decide +kernel
set_option maxRecDepth 20000 in
theorem ggX4_letTalk_X4_givenAwayByTalk : GoodIn wsX4_letTalk wsX4_givenAwayByTalk := goodIn_r _ [7, 8, 9, 10, 11, 6, 12, 2, 13, 14, 15, 16, 17, 18, 19, 20, 21, 22, 23, 24, 25, 26, 27, 28, 29, 30, 31, 32, 33, 34, 35, 36, 37, 38, 39, 40, 41, 42, 43, 44, 45, 46, 47, 48, 49, 50, 51, 52, 53, 54, 55, 56, 57, 62, 63, 64, 65, 66, 67, 68, 69, 70, 71, 72, 73, 74] (by decide +kernel) (by decide +kernel)
set_option maxRecDepth 20000 in
theorem gX4_letTalk_X4_givenAwayByTalk : GoodIn wsX4_letTalk (wsV RX4 65 RX4 yX4_givenAwayByTalk wsX4_givenAwayByTalk) := goodIn_app (goodIn_of _ (by decide +kernel)) ggX4_letTalk_X4_givenAwayByTalk
set_option maxRecDepth 20000 in
theorem ggX4_letTalk_X1_link : GoodIn wsX4_letTalk wsX1_link := goodIn_r _ [61, 22, 71] (by decide +kernel) (by decide +kernel)
set_option maxRecDepth 20000 in
theorem gX4_letTalk_X1_link : GoodIn wsX4_letTalk (wsV RX4 68 RX1 yX1_link wsX1_link) := goodIn_app (goodIn_of _ (by decide +kernel)) ggX4_letTalk_X1_link
theorem dX4_letTalk_0 : decode cX4_letTalk 0 = .ok (.aload_n 0, 1) := by decide +kernel
theorem dX4_letTalk_1 : decode cX4_letTalk 1 = .ok (.iload_n 1, 1) := by decide +kernel
theorem dX4_letTalk_2 : decode cX4_letTalk 2 = .ok (.iload_n 2, 1) := by decide +kernel
theorem dX4_letTalk_3 : decode cX4_letTalk 3 = .ok (.invokevirtual 65, 3) := by decide +kernel
theorem dX4_letTalk_6 : decode cX4_letTalk 6 = .ok (.ifCond .eq 15, 3) := by decide +kernel
theorem dX4_letTalk_9 : decode cX4_letTalk 9 = .ok (.aload_n 0, 1) := by decide +kernel
theorem dX4_letTalk_10 : decode cX4_letTalk 10 = .ok (.getfield 28, 3) := by decide +kernel
theorem dX4_letTalk_13 : decode cX4_letTalk 13 = .ok (.iload_n 1, 1) := by decide +kernel
theorem dX4_letTalk_14 : decode cX4_letTalk 14 = .ok (.dup2, 1) := by decide +kernel
theorem dX4_letTalk_15 : decode cX4_letTalk 15 = .ok (.iaload, 1) := by decide +kernel
theorem dX4_letTalk_16 : decode cX4_letTalk 16 = .ok (.iconst 1, 1) := by decide +kernel
theorem dX4_letTalk_17 : decode cX4_letTalk 17 = .ok (.iadd, 1) := by decide +kernel
theorem dX4_letTalk_18 : decode cX4_letTalk 18 = .ok (.iastore, 1) := by decide +kernel
theorem dX4_letTalk_19 : decode cX4_letTalk 19 = .ok (.iconst 0, 1) := by decide +kernel
theorem dX4_letTalk_20 : decode cX4_letTalk 20 = .ok (.ireturn, 1) := by decide +kernel
theorem dX4_letTalk_21 : decode cX4_letTalk 21 = .ok (.aload_n 0, 1) := by decide +kernel
theorem dX4_letTalk_22 : decode cX4_letTalk 22 = .ok (.getfield 18, 3) := by decide +kernel
theorem dX4_letTalk_25 : decode cX4_letTalk 25 = .ok (.iload_n 1, 1) := by decide +kernel
theorem dX4_letTalk_26 : decode cX4_letTalk 26 = .ok (.iload_n 2, 1) := by decide +kernel
theorem dX4_letTalk_27 : decode cX4_letTalk 27 = .ok (.invokevirtual 68, 3) := by decide +kernel
theorem dX4_letTalk_30 : decode cX4_letTalk 30 = .ok (.iconst 1, 1) := by decide +kernel
theorem dX4_letTalk_31 : decode cX4_letTalk 31 = .ok (.ireturn, 1) := by decide +kernel
set_option maxRecDepth 20000 in
theorem ggX4_circle_X1_reach : GoodIn wsX4_circle wsX1_reach := goodIn_r _ [6, 7, 8, 9, 5, 10, 11, 12, 13, 14, 24] (by decide +kernel) (by decide +kernel)
set_option maxRecDepth 20000 in
theorem gX4_circle_X1_reach : GoodIn wsX4_circle (wsV RX4 72 RX1 yX1_reach wsX1_reach) := goodIn_app (goodIn_of _ (by decide +kernel)) ggX4_circle_X1_reach
theorem dX4_circle_0 : decode cX4_circle 0 = .ok (.aload_n 0, 1) := by decide +kernel
theorem dX4_circle_1 : decode cX4_circle 1 = .ok (.getfield 18, 3) := by decide +kernel
theorem dX4_circle_4 : decode cX4_circle 4 = .ok (.iload_n 1, 1) := by decide +kernel
theorem dX4_circle_5 : decode cX4_circle 5 = .ok (.iconst 4, 1) := by decide +kernel
theorem dX4_circle_6 : decode cX4_circle 6 = .ok (.invokevirtual 72, 3) := by decide +kernel
theorem dX4_circle_9 : decode cX4_circle 9 = .ok (.ireturn, 1) := by decide +kernel
set_option maxRecDepth 20000 in
theorem ggX4_toldEver_X4_total : GoodIn wsX4_toldEver wsX4_total := goodIn_r _ [5] (by decide +kernel) (by decide +kernel)
set_option maxRecDepth 20000 in
theorem gX4_toldEver_X4_total : GoodIn wsX4_toldEver (va_wsS RX4 85 yX4_total wsX4_total) := goodIn_app (goodIn_of _ (by decide +kernel)) ggX4_toldEver_X4_total
theorem dX4_toldEver_0 : decode cX4_toldEver 0 = .ok (.aload_n 0, 1) := by decide +kernel
theorem dX4_toldEver_1 : decode cX4_toldEver 1 = .ok (.getfield 25, 3) := by decide +kernel
theorem dX4_toldEver_4 : decode cX4_toldEver 4 = .ok (.invokestatic 85, 3) := by decide +kernel
theorem dX4_toldEver_7 : decode cX4_toldEver 7 = .ok (.ireturn, 1) := by decide +kernel
set_option maxRecDepth 20000 in
theorem ggX4_refusedEver_X4_total : GoodIn wsX4_refusedEver wsX4_total := goodIn_r _ [5] (by decide +kernel) (by decide +kernel)
set_option maxRecDepth 20000 in
theorem gX4_refusedEver_X4_total : GoodIn wsX4_refusedEver (va_wsS RX4 85 yX4_total wsX4_total) := goodIn_app (goodIn_of _ (by decide +kernel)) ggX4_refusedEver_X4_total
theorem dX4_refusedEver_0 : decode cX4_refusedEver 0 = .ok (.aload_n 0, 1) := by decide +kernel
theorem dX4_refusedEver_1 : decode cX4_refusedEver 1 = .ok (.getfield 28, 3) := by decide +kernel
theorem dX4_refusedEver_4 : decode cX4_refusedEver 4 = .ok (.invokestatic 85, 3) := by decide +kernel
theorem dX4_refusedEver_7 : decode cX4_refusedEver 7 = .ok (.ireturn, 1) := by decide +kernel
set_option maxRecDepth 20000 in
theorem ggX4_givenAwayWith_X4_circle : GoodIn wsX4_givenAwayWith wsX4_circle := goodIn_r _ [6, 7, 8, 9, 10, 11, 12, 13, 14, 15, 16, 17, 18, 19, 20, 53, 54, 55, 56, 57, 58, 59, 60, 61, 62] (by decide +kernel) (by decide +kernel)
set_option maxRecDepth 20000 in
theorem gX4_givenAwayWith_X4_circle : GoodIn wsX4_givenAwayWith (wsV RX4 75 RX4 yX4_circle wsX4_circle) := goodIn_app (goodIn_of _ (by decide +kernel)) ggX4_givenAwayWith_X4_circle
set_option maxRecDepth 20000 in
theorem ggX4_givenAwayWith_X4_fillSpan : GoodIn wsX4_givenAwayWith wsX4_fillSpan := goodIn_r _ [24, 1, 25, 26, 27, 28, 29, 30, 31, 32, 33, 34, 35, 36, 37, 38, 39, 40, 41, 18, 19, 20, 42, 43, 44, 45, 53, 54, 55, 56, 57, 58, 59, 60, 61, 63, 64, 65] (by decide +kernel) (by decide +kernel)
set_option maxRecDepth 20000 in
theorem gX4_givenAwayWith_X4_fillSpan : GoodIn wsX4_givenAwayWith (wsV RX4 78 RX4 yX4_fillSpan wsX4_fillSpan) := goodIn_app (goodIn_of _ (by decide +kernel)) ggX4_givenAwayWith_X4_fillSpan
set_option maxRecDepth 20000 in
theorem ggX4_givenAwayWith_X3_add : GoodIn wsX4_givenAwayWith wsX3_add := goodIn_r _ [35, 36, 37, 31, 38, 39, 40, 29, 41, 18, 19, 20, 42, 43, 44, 45, 63, 64, 65] (by decide +kernel) (by decide +kernel)
set_option maxRecDepth 20000 in
theorem gX4_givenAwayWith_X3_add : GoodIn wsX4_givenAwayWith (wsV RX4 93 RX3 yX3_add wsX3_add) := goodIn_app (goodIn_of _ (by decide +kernel)) ggX4_givenAwayWith_X3_add
set_option maxRecDepth 20000 in
theorem ggX4_givenAwayWith_X3_alone : GoodIn wsX4_givenAwayWith wsX3_alone := goodIn_r _ [49, 31, 36, 18, 19, 20, 50, 51, 29, 52, 63, 64, 65] (by decide +kernel) (by decide +kernel)
set_option maxRecDepth 20000 in
theorem gX4_givenAwayWith_X3_alone : GoodIn wsX4_givenAwayWith (wsV RX4 96 RX3 yX3_alone wsX3_alone) := goodIn_app (goodIn_of _ (by decide +kernel)) ggX4_givenAwayWith_X3_alone
theorem dX4_givenAwayWith_0 : decode cX4_givenAwayWith 0 = .ok (.aload_n 0, 1) := by decide +kernel
theorem dX4_givenAwayWith_1 : decode cX4_givenAwayWith 1 = .ok (.aload_n 0, 1) := by decide +kernel
theorem dX4_givenAwayWith_2 : decode cX4_givenAwayWith 2 = .ok (.iload_n 1, 1) := by decide +kernel
theorem dX4_givenAwayWith_3 : decode cX4_givenAwayWith 3 = .ok (.invokevirtual 75, 3) := by decide +kernel
theorem dX4_givenAwayWith_6 : decode cX4_givenAwayWith 6 = .ok (.invokevirtual 78, 3) := by decide +kernel
theorem dX4_givenAwayWith_9 : decode cX4_givenAwayWith 9 = .ok (.aload_n 0, 1) := by decide +kernel
theorem dX4_givenAwayWith_10 : decode cX4_givenAwayWith 10 = .ok (.getfield 34, 3) := by decide +kernel
theorem dX4_givenAwayWith_13 : decode cX4_givenAwayWith 13 = .ok (.iload_n 2, 1) := by decide +kernel
theorem dX4_givenAwayWith_14 : decode cX4_givenAwayWith 14 = .ok (.invokevirtual 93, 3) := by decide +kernel
theorem dX4_givenAwayWith_17 : decode cX4_givenAwayWith 17 = .ok (.aload_n 0, 1) := by decide +kernel
theorem dX4_givenAwayWith_18 : decode cX4_givenAwayWith 18 = .ok (.getfield 34, 3) := by decide +kernel
theorem dX4_givenAwayWith_21 : decode cX4_givenAwayWith 21 = .ok (.invokevirtual 96, 3) := by decide +kernel
theorem dX4_givenAwayWith_24 : decode cX4_givenAwayWith 24 = .ok (.ireturn, 1) := by decide +kernel
set_option maxRecDepth 20000 in
theorem ggX4_givenAwayByTalk_X4_circle : GoodIn wsX4_givenAwayByTalk wsX4_circle := goodIn_r _ [6, 7, 8, 9, 10, 11, 12, 13, 14, 15, 16, 17, 18, 19, 20, 53, 54, 55, 56, 57, 58, 59, 60, 61, 62] (by decide +kernel) (by decide +kernel)
set_option maxRecDepth 20000 in
theorem gX4_givenAwayByTalk_X4_circle : GoodIn wsX4_givenAwayByTalk (wsV RX4 75 RX4 yX4_circle wsX4_circle) := goodIn_app (goodIn_of _ (by decide +kernel)) ggX4_givenAwayByTalk_X4_circle
set_option maxRecDepth 20000 in
theorem ggX4_givenAwayByTalk_X4_fillSpan : GoodIn wsX4_givenAwayByTalk wsX4_fillSpan := goodIn_r _ [24, 1, 25, 26, 27, 28, 29, 30, 31, 32, 33, 34, 35, 36, 37, 38, 39, 40, 41, 18, 19, 20, 42, 43, 44, 45, 53, 54, 55, 56, 57, 58, 59, 60, 61, 63, 64, 65] (by decide +kernel) (by decide +kernel)
set_option maxRecDepth 20000 in
theorem gX4_givenAwayByTalk_X4_fillSpan : GoodIn wsX4_givenAwayByTalk (wsV RX4 78 RX4 yX4_fillSpan wsX4_fillSpan) := goodIn_app (goodIn_of _ (by decide +kernel)) ggX4_givenAwayByTalk_X4_fillSpan
set_option maxRecDepth 20000 in
theorem ggX4_givenAwayByTalk_X3_alone : GoodIn wsX4_givenAwayByTalk wsX3_alone := goodIn_r _ [49, 31, 36, 18, 19, 20, 50, 51, 29, 52, 63, 64, 65] (by decide +kernel) (by decide +kernel)
set_option maxRecDepth 20000 in
theorem gX4_givenAwayByTalk_X3_alone : GoodIn wsX4_givenAwayByTalk (wsV RX4 96 RX3 yX3_alone wsX3_alone) := goodIn_app (goodIn_of _ (by decide +kernel)) ggX4_givenAwayByTalk_X3_alone
theorem dX4_givenAwayByTalk_0 : decode cX4_givenAwayByTalk 0 = .ok (.aload_n 0, 1) := by decide +kernel
theorem dX4_givenAwayByTalk_1 : decode cX4_givenAwayByTalk 1 = .ok (.aload_n 0, 1) := by decide +kernel
theorem dX4_givenAwayByTalk_2 : decode cX4_givenAwayByTalk 2 = .ok (.iload_n 1, 1) := by decide +kernel
theorem dX4_givenAwayByTalk_3 : decode cX4_givenAwayByTalk 3 = .ok (.invokevirtual 75, 3) := by decide +kernel
theorem dX4_givenAwayByTalk_6 : decode cX4_givenAwayByTalk 6 = .ok (.aload_n 0, 1) := by decide +kernel
theorem dX4_givenAwayByTalk_7 : decode cX4_givenAwayByTalk 7 = .ok (.iload_n 2, 1) := by decide +kernel
theorem dX4_givenAwayByTalk_8 : decode cX4_givenAwayByTalk 8 = .ok (.invokevirtual 75, 3) := by decide +kernel
theorem dX4_givenAwayByTalk_11 : decode cX4_givenAwayByTalk 11 = .ok (.ior, 1) := by decide +kernel
theorem dX4_givenAwayByTalk_12 : decode cX4_givenAwayByTalk 12 = .ok (.invokevirtual 78, 3) := by decide +kernel
theorem dX4_givenAwayByTalk_15 : decode cX4_givenAwayByTalk 15 = .ok (.aload_n 0, 1) := by decide +kernel
theorem dX4_givenAwayByTalk_16 : decode cX4_givenAwayByTalk 16 = .ok (.getfield 34, 3) := by decide +kernel
theorem dX4_givenAwayByTalk_19 : decode cX4_givenAwayByTalk 19 = .ok (.invokevirtual 96, 3) := by decide +kernel
theorem dX4_givenAwayByTalk_22 : decode cX4_givenAwayByTalk 22 = .ok (.ireturn, 1) := by decide +kernel
set_option maxRecDepth 20000 in
theorem ggX4_areSound_X4_circle : GoodIn wsX4_areSound wsX4_circle := goodIn_r _ [7, 8, 9, 10, 11, 12, 13, 14, 15, 16, 17, 18, 19, 20, 21, 62, 63, 64, 65, 66, 67, 68, 69, 70, 71] (by decide +kernel) (by decide +kernel)
set_option maxRecDepth 20000 in
theorem gX4_areSound_X4_circle : GoodIn wsX4_areSound (wsV RX4 75 RX4 yX4_circle wsX4_circle) := goodIn_app (goodIn_of _ (by decide +kernel)) ggX4_areSound_X4_circle
set_option maxRecDepth 20000 in
theorem ggX4_areSound_X4_fillSpan : GoodIn wsX4_areSound wsX4_fillSpan := goodIn_r _ [25, 2, 26, 27, 28, 29, 30, 31, 32, 33, 34, 35, 36, 37, 38, 39, 40, 41, 42, 19, 20, 21, 43, 44, 45, 46, 62, 63, 64, 65, 66, 67, 68, 69, 70, 72, 73, 74] (by decide +kernel) (by decide +kernel)
set_option maxRecDepth 20000 in
theorem gX4_areSound_X4_fillSpan : GoodIn wsX4_areSound (wsV RX4 78 RX4 yX4_fillSpan wsX4_fillSpan) := goodIn_app (goodIn_of _ (by decide +kernel)) ggX4_areSound_X4_fillSpan
set_option maxRecDepth 20000 in
theorem ggX4_areSound_X3_alone : GoodIn wsX4_areSound wsX3_alone := goodIn_r _ [50, 32, 37, 19, 20, 21, 51, 52, 30, 53, 72, 73, 74] (by decide +kernel) (by decide +kernel)
set_option maxRecDepth 20000 in
theorem gX4_areSound_X3_alone : GoodIn wsX4_areSound (wsV RX4 96 RX3 yX3_alone wsX3_alone) := goodIn_app (goodIn_of _ (by decide +kernel)) ggX4_areSound_X3_alone
set_option maxRecDepth 20000 in
theorem ggX4_areSound_X4_spanHoldsAllTold : GoodIn wsX4_areSound wsX4_spanHoldsAllTold := goodIn_r _ [57, 26, 2, 19, 20, 21, 58, 59, 60, 30, 61, 39, 40, 41, 42, 38, 32, 43, 44, 45, 46, 37, 62, 63, 64, 65, 66, 67, 68, 69, 70, 72, 73, 74] (by decide +kernel) (by decide +kernel)
set_option maxRecDepth 20000 in
theorem gX4_areSound_X4_spanHoldsAllTold : GoodIn wsX4_areSound (wsV RX4 99 RX4 yX4_spanHoldsAllTold wsX4_spanHoldsAllTold) := goodIn_app (goodIn_of _ (by decide +kernel)) ggX4_areSound_X4_spanHoldsAllTold
theorem dX4_areSound_0 : decode cX4_areSound 0 = .ok (.iconst 0, 1) := by decide +kernel
theorem dX4_areSound_1 : decode cX4_areSound 1 = .ok (.istore_n 1, 1) := by decide +kernel
theorem dX4_areSound_2 : decode cX4_areSound 2 = .ok (.iload_n 1, 1) := by decide +kernel
theorem dX4_areSound_3 : decode cX4_areSound 3 = .ok (.aload_n 0, 1) := by decide +kernel
theorem dX4_areSound_4 : decode cX4_areSound 4 = .ok (.getfield 45, 3) := by decide +kernel
theorem dX4_areSound_7 : decode cX4_areSound 7 = .ok (.if_icmp .ge 38, 3) := by decide +kernel
theorem dX4_areSound_10 : decode cX4_areSound 10 = .ok (.aload_n 0, 1) := by decide +kernel
theorem dX4_areSound_11 : decode cX4_areSound 11 = .ok (.aload_n 0, 1) := by decide +kernel
theorem dX4_areSound_12 : decode cX4_areSound 12 = .ok (.iload_n 1, 1) := by decide +kernel
theorem dX4_areSound_13 : decode cX4_areSound 13 = .ok (.invokevirtual 75, 3) := by decide +kernel
theorem dX4_areSound_16 : decode cX4_areSound 16 = .ok (.invokevirtual 78, 3) := by decide +kernel
theorem dX4_areSound_19 : decode cX4_areSound 19 = .ok (.aload_n 0, 1) := by decide +kernel
theorem dX4_areSound_20 : decode cX4_areSound 20 = .ok (.getfield 34, 3) := by decide +kernel
theorem dX4_areSound_23 : decode cX4_areSound 23 = .ok (.invokevirtual 96, 3) := by decide +kernel
theorem dX4_areSound_26 : decode cX4_areSound 26 = .ok (.ifCond .ne 11, 3) := by decide +kernel
theorem dX4_areSound_29 : decode cX4_areSound 29 = .ok (.aload_n 0, 1) := by decide +kernel
theorem dX4_areSound_30 : decode cX4_areSound 30 = .ok (.iload_n 1, 1) := by decide +kernel
theorem dX4_areSound_31 : decode cX4_areSound 31 = .ok (.invokevirtual 99, 3) := by decide +kernel
theorem dX4_areSound_34 : decode cX4_areSound 34 = .ok (.ifCond .ne 5, 3) := by decide +kernel
theorem dX4_areSound_37 : decode cX4_areSound 37 = .ok (.iconst 0, 1) := by decide +kernel
theorem dX4_areSound_38 : decode cX4_areSound 38 = .ok (.ireturn, 1) := by decide +kernel
theorem dX4_areSound_39 : decode cX4_areSound 39 = .ok (.iinc 1 1, 3) := by decide +kernel
theorem dX4_areSound_42 : decode cX4_areSound 42 = .ok (.goto (-40), 3) := by decide +kernel
theorem dX4_areSound_45 : decode cX4_areSound 45 = .ok (.iconst 1, 1) := by decide +kernel
theorem dX4_areSound_46 : decode cX4_areSound 46 = .ok (.ireturn, 1) := by decide +kernel
set_option maxRecDepth 20000 in
theorem ggX4_spanHoldsAllTold_X6_contains : GoodIn wsX4_spanHoldsAllTold wsX6_contains := goodIn_r _ [5] (by decide +kernel) (by decide +kernel)
set_option maxRecDepth 20000 in
theorem gX4_spanHoldsAllTold_X6_contains_n102 : GoodIn wsX4_spanHoldsAllTold (wsX6_contains) := ggX4_spanHoldsAllTold_X6_contains
set_option maxRecDepth 20000 in
theorem ggX4_spanHoldsAllTold_X3_holds : GoodIn wsX4_spanHoldsAllTold wsX3_holds := goodIn_r _ [10, 11, 12, 13, 9, 14, 15, 16, 3, 4, 5, 17, 18, 19, 20, 21, 31, 32, 33] (by decide +kernel) (by decide +kernel)
set_option maxRecDepth 20000 in
theorem gX4_spanHoldsAllTold_X3_holds : GoodIn wsX4_spanHoldsAllTold (wsV RX4 89 RX3 yX3_holds wsX3_holds) := goodIn_app (goodIn_of _ (by decide +kernel)) ggX4_spanHoldsAllTold_X3_holds
theorem dX4_spanHoldsAllTold_0 : decode cX4_spanHoldsAllTold 0 = .ok (.iconst 0, 1) := by decide +kernel
theorem dX4_spanHoldsAllTold_1 : decode cX4_spanHoldsAllTold 1 = .ok (.istore_n 2, 1) := by decide +kernel
theorem dX4_spanHoldsAllTold_2 : decode cX4_spanHoldsAllTold 2 = .ok (.iload_n 2, 1) := by decide +kernel
theorem dX4_spanHoldsAllTold_3 : decode cX4_spanHoldsAllTold 3 = .ok (.aload_n 0, 1) := by decide +kernel
theorem dX4_spanHoldsAllTold_4 : decode cX4_spanHoldsAllTold 4 = .ok (.getfield 22, 3) := by decide +kernel
theorem dX4_spanHoldsAllTold_7 : decode cX4_spanHoldsAllTold 7 = .ok (.arraylength, 1) := by decide +kernel
theorem dX4_spanHoldsAllTold_8 : decode cX4_spanHoldsAllTold 8 = .ok (.if_icmp .ge 35, 3) := by decide +kernel
theorem dX4_spanHoldsAllTold_11 : decode cX4_spanHoldsAllTold 11 = .ok (.aload_n 0, 1) := by decide +kernel
theorem dX4_spanHoldsAllTold_12 : decode cX4_spanHoldsAllTold 12 = .ok (.getfield 22, 3) := by decide +kernel
theorem dX4_spanHoldsAllTold_15 : decode cX4_spanHoldsAllTold 15 = .ok (.iload_n 2, 1) := by decide +kernel
theorem dX4_spanHoldsAllTold_16 : decode cX4_spanHoldsAllTold 16 = .ok (.iaload, 1) := by decide +kernel
theorem dX4_spanHoldsAllTold_17 : decode cX4_spanHoldsAllTold 17 = .ok (.iload_n 1, 1) := by decide +kernel
theorem dX4_spanHoldsAllTold_18 : decode cX4_spanHoldsAllTold 18 = .ok (.invokestatic 102, 3) := by decide +kernel
theorem dX4_spanHoldsAllTold_21 : decode cX4_spanHoldsAllTold 21 = .ok (.ifCond .eq 16, 3) := by decide +kernel
theorem dX4_spanHoldsAllTold_24 : decode cX4_spanHoldsAllTold 24 = .ok (.aload_n 0, 1) := by decide +kernel
theorem dX4_spanHoldsAllTold_25 : decode cX4_spanHoldsAllTold 25 = .ok (.getfield 34, 3) := by decide +kernel
theorem dX4_spanHoldsAllTold_28 : decode cX4_spanHoldsAllTold 28 = .ok (.iload_n 2, 1) := by decide +kernel
theorem dX4_spanHoldsAllTold_29 : decode cX4_spanHoldsAllTold 29 = .ok (.invokevirtual 89, 3) := by decide +kernel
theorem dX4_spanHoldsAllTold_32 : decode cX4_spanHoldsAllTold 32 = .ok (.ifCond .ne 5, 3) := by decide +kernel
theorem dX4_spanHoldsAllTold_35 : decode cX4_spanHoldsAllTold 35 = .ok (.iconst 0, 1) := by decide +kernel
theorem dX4_spanHoldsAllTold_36 : decode cX4_spanHoldsAllTold 36 = .ok (.ireturn, 1) := by decide +kernel
theorem dX4_spanHoldsAllTold_37 : decode cX4_spanHoldsAllTold 37 = .ok (.iinc 2 1, 3) := by decide +kernel
theorem dX4_spanHoldsAllTold_40 : decode cX4_spanHoldsAllTold 40 = .ok (.goto (-38), 3) := by decide +kernel
theorem dX4_spanHoldsAllTold_43 : decode cX4_spanHoldsAllTold 43 = .ok (.iconst 1, 1) := by decide +kernel
theorem dX4_spanHoldsAllTold_44 : decode cX4_spanHoldsAllTold 44 = .ok (.ireturn, 1) := by decide +kernel
set_option maxRecDepth 20000 in
theorem ggX4_fillSpan_X3_forgetAll : GoodIn wsX4_fillSpan wsX3_forgetAll := goodIn_r _ [7, 8, 35, 36, 37] (by decide +kernel) (by decide +kernel)
set_option maxRecDepth 20000 in
theorem gX4_fillSpan_X3_forgetAll : GoodIn wsX4_fillSpan (wsV RX4 106 RX3 yX3_forgetAll wsX3_forgetAll) := goodIn_app (goodIn_of _ (by decide +kernel)) ggX4_fillSpan_X3_forgetAll
set_option maxRecDepth 20000 in
theorem ggX4_fillSpan_X3_add : GoodIn wsX4_fillSpan wsX3_add := goodIn_r _ [12, 13, 14, 8, 15, 16, 17, 6, 18, 19, 20, 21, 22, 23, 24, 25, 35, 36, 37] (by decide +kernel) (by decide +kernel)
set_option maxRecDepth 20000 in
theorem gX4_fillSpan_X3_add : GoodIn wsX4_fillSpan (wsV RX4 93 RX3 yX3_add wsX3_add) := goodIn_app (goodIn_of _ (by decide +kernel)) ggX4_fillSpan_X3_add
theorem dX4_fillSpan_0 : decode cX4_fillSpan 0 = .ok (.aload_n 0, 1) := by decide +kernel
theorem dX4_fillSpan_1 : decode cX4_fillSpan 1 = .ok (.getfield 34, 3) := by decide +kernel
theorem dX4_fillSpan_4 : decode cX4_fillSpan 4 = .ok (.invokevirtual 106, 3) := by decide +kernel
theorem dX4_fillSpan_7 : decode cX4_fillSpan 7 = .ok (.iconst 0, 1) := by decide +kernel
theorem dX4_fillSpan_8 : decode cX4_fillSpan 8 = .ok (.istore_n 2, 1) := by decide +kernel
theorem dX4_fillSpan_9 : decode cX4_fillSpan 9 = .ok (.iload_n 2, 1) := by decide +kernel
theorem dX4_fillSpan_10 : decode cX4_fillSpan 10 = .ok (.aload_n 0, 1) := by decide +kernel
theorem dX4_fillSpan_11 : decode cX4_fillSpan 11 = .ok (.getfield 22, 3) := by decide +kernel
theorem dX4_fillSpan_14 : decode cX4_fillSpan 14 = .ok (.arraylength, 1) := by decide +kernel
theorem dX4_fillSpan_15 : decode cX4_fillSpan 15 = .ok (.if_icmp .ge 28, 3) := by decide +kernel
theorem dX4_fillSpan_18 : decode cX4_fillSpan 18 = .ok (.aload_n 0, 1) := by decide +kernel
theorem dX4_fillSpan_19 : decode cX4_fillSpan 19 = .ok (.getfield 22, 3) := by decide +kernel
theorem dX4_fillSpan_22 : decode cX4_fillSpan 22 = .ok (.iload_n 2, 1) := by decide +kernel
theorem dX4_fillSpan_23 : decode cX4_fillSpan 23 = .ok (.iaload, 1) := by decide +kernel
theorem dX4_fillSpan_24 : decode cX4_fillSpan 24 = .ok (.iload_n 1, 1) := by decide +kernel
theorem dX4_fillSpan_25 : decode cX4_fillSpan 25 = .ok (.iand, 1) := by decide +kernel
theorem dX4_fillSpan_26 : decode cX4_fillSpan 26 = .ok (.ifCond .eq 11, 3) := by decide +kernel
theorem dX4_fillSpan_29 : decode cX4_fillSpan 29 = .ok (.aload_n 0, 1) := by decide +kernel
theorem dX4_fillSpan_30 : decode cX4_fillSpan 30 = .ok (.getfield 34, 3) := by decide +kernel
theorem dX4_fillSpan_33 : decode cX4_fillSpan 33 = .ok (.iload_n 2, 1) := by decide +kernel
theorem dX4_fillSpan_34 : decode cX4_fillSpan 34 = .ok (.invokevirtual 93, 3) := by decide +kernel
theorem dX4_fillSpan_37 : decode cX4_fillSpan 37 = .ok (.iinc 2 1, 3) := by decide +kernel
theorem dX4_fillSpan_40 : decode cX4_fillSpan 40 = .ok (.goto (-31), 3) := by decide +kernel
theorem dX4_fillSpan_43 : decode cX4_fillSpan 43 = .ok (.return_, 1) := by decide +kernel
set_option maxRecDepth 20000 in
theorem ggX4_sumOf_X6_contains : GoodIn wsX4_sumOf wsX6_contains := goodIn_r _ [5] (by decide +kernel) (by decide +kernel)
set_option maxRecDepth 20000 in
theorem gX4_sumOf_X6_contains_n102 : GoodIn wsX4_sumOf (wsX6_contains) := ggX4_sumOf_X6_contains
theorem dX4_sumOf_0 : decode cX4_sumOf 0 = .ok (.iconst 0, 1) := by decide +kernel
theorem dX4_sumOf_1 : decode cX4_sumOf 1 = .ok (.istore_n 2, 1) := by decide +kernel
theorem dX4_sumOf_2 : decode cX4_sumOf 2 = .ok (.iconst 0, 1) := by decide +kernel
theorem dX4_sumOf_3 : decode cX4_sumOf 3 = .ok (.istore_n 3, 1) := by decide +kernel
theorem dX4_sumOf_4 : decode cX4_sumOf 4 = .ok (.iload_n 3, 1) := by decide +kernel
theorem dX4_sumOf_5 : decode cX4_sumOf 5 = .ok (.aload_n 0, 1) := by decide +kernel
theorem dX4_sumOf_6 : decode cX4_sumOf 6 = .ok (.getfield 42, 3) := by decide +kernel
theorem dX4_sumOf_9 : decode cX4_sumOf 9 = .ok (.if_icmp .ge 26, 3) := by decide +kernel
theorem dX4_sumOf_12 : decode cX4_sumOf 12 = .ok (.iload_n 1, 1) := by decide +kernel
theorem dX4_sumOf_13 : decode cX4_sumOf 13 = .ok (.iload_n 3, 1) := by decide +kernel
theorem dX4_sumOf_14 : decode cX4_sumOf 14 = .ok (.invokestatic 102, 3) := by decide +kernel
theorem dX4_sumOf_17 : decode cX4_sumOf 17 = .ok (.ifCond .eq 12, 3) := by decide +kernel
theorem dX4_sumOf_20 : decode cX4_sumOf 20 = .ok (.iload_n 2, 1) := by decide +kernel
theorem dX4_sumOf_21 : decode cX4_sumOf 21 = .ok (.aload_n 0, 1) := by decide +kernel
theorem dX4_sumOf_22 : decode cX4_sumOf 22 = .ok (.getfield 9, 3) := by decide +kernel
theorem dX4_sumOf_25 : decode cX4_sumOf 25 = .ok (.iload_n 3, 1) := by decide +kernel
theorem dX4_sumOf_26 : decode cX4_sumOf 26 = .ok (.iaload, 1) := by decide +kernel
theorem dX4_sumOf_27 : decode cX4_sumOf 27 = .ok (.iadd, 1) := by decide +kernel
theorem dX4_sumOf_28 : decode cX4_sumOf 28 = .ok (.istore_n 2, 1) := by decide +kernel
theorem dX4_sumOf_29 : decode cX4_sumOf 29 = .ok (.iinc 3 1, 3) := by decide +kernel
theorem dX4_sumOf_32 : decode cX4_sumOf 32 = .ok (.goto (-28), 3) := by decide +kernel
theorem dX4_sumOf_35 : decode cX4_sumOf 35 = .ok (.iload_n 2, 1) := by decide +kernel
theorem dX4_sumOf_36 : decode cX4_sumOf 36 = .ok (.ireturn, 1) := by decide +kernel
theorem dX4_total_0 : decode cX4_total 0 = .ok (.iconst 0, 1) := by decide +kernel
theorem dX4_total_1 : decode cX4_total 1 = .ok (.istore_n 1, 1) := by decide +kernel
theorem dX4_total_2 : decode cX4_total 2 = .ok (.iconst 0, 1) := by decide +kernel
theorem dX4_total_3 : decode cX4_total 3 = .ok (.istore_n 2, 1) := by decide +kernel
end
section
theorem dX4_total_4 : decode cX4_total 4 = .ok (.iload_n 2, 1) := by decide +kernel
theorem dX4_total_5 : decode cX4_total 5 = .ok (.aload_n 0, 1) := by decide +kernel
theorem dX4_total_6 : decode cX4_total 6 = .ok (.arraylength, 1) := by decide +kernel
theorem dX4_total_7 : decode cX4_total 7 = .ok (.if_icmp .ge 15, 3) := by decide +kernel
theorem dX4_total_10 : decode cX4_total 10 = .ok (.iload_n 1, 1) := by decide +kernel
theorem dX4_total_11 : decode cX4_total 11 = .ok (.aload_n 0, 1) := by decide +kernel
theorem dX4_total_12 : decode cX4_total 12 = .ok (.iload_n 2, 1) := by decide +kernel
theorem dX4_total_13 : decode cX4_total 13 = .ok (.iaload, 1) := by decide +kernel
theorem dX4_total_14 : decode cX4_total 14 = .ok (.iadd, 1) := by decide +kernel
theorem dX4_total_15 : decode cX4_total 15 = .ok (.istore_n 1, 1) := by decide +kernel
theorem dX4_total_16 : decode cX4_total 16 = .ok (.iinc 2 1, 3) := by decide +kernel
theorem dX4_total_19 : decode cX4_total 19 = .ok (.goto (-15), 3) := by decide +kernel
theorem dX4_total_22 : decode cX4_total 22 = .ok (.iload_n 1, 1) := by decide +kernel
theorem dX4_total_23 : decode cX4_total 23 = .ok (.ireturn, 1) := by decide +kernel
theorem dX5_init_0 : decode cX5_init 0 = .ok (.aload_n 0, 1) := by decide +kernel
theorem dX5_init_1 : decode cX5_init 1 = .ok (.invokespecial 3, 3) := by decide +kernel
theorem dX5_init_4 : decode cX5_init 4 = .ok (.aload_n 0, 1) := by decide +kernel
theorem dX5_init_5 : decode cX5_init 5 = .ok (.bipush 10, 2) := by decide +kernel
theorem dX5_init_7 : decode cX5_init 7 = .ok (.newarray .int, 2) := by decide +kernel
theorem dX5_init_9 : decode cX5_init 9 = .ok (.putfield 9, 3) := by decide +kernel
theorem dX5_init_12 : decode cX5_init 12 = .ok (.return_, 1) := by decide +kernel
theorem dX5_count_0 : decode cX5_count 0 = .ok (.aload_n 0, 1) := by decide +kernel
theorem dX5_count_1 : decode cX5_count 1 = .ok (.getfield 15, 3) := by decide +kernel
theorem dX5_count_4 : decode cX5_count 4 = .ok (.ireturn, 1) := by decide +kernel
theorem dX5_knows_0 : decode cX5_knows 0 = .ok (.iload_n 1, 1) := by decide +kernel
theorem dX5_knows_1 : decode cX5_knows 1 = .ok (.bipush 10, 2) := by decide +kernel
theorem dX5_knows_3 : decode cX5_knows 3 = .ok (.if_icmp .lt 18, 3) := by decide +kernel
theorem dX5_knows_6 : decode cX5_knows 6 = .ok (.iload_n 1, 1) := by decide +kernel
theorem dX5_knows_7 : decode cX5_knows 7 = .ok (.bipush 10, 2) := by decide +kernel
theorem dX5_knows_9 : decode cX5_knows 9 = .ok (.aload_n 0, 1) := by decide +kernel
theorem dX5_knows_10 : decode cX5_knows 10 = .ok (.getfield 15, 3) := by decide +kernel
theorem dX5_knows_13 : decode cX5_knows 13 = .ok (.iadd, 1) := by decide +kernel
theorem dX5_knows_14 : decode cX5_knows 14 = .ok (.if_icmp .ge 7, 3) := by decide +kernel
theorem dX5_knows_17 : decode cX5_knows 17 = .ok (.iconst 1, 1) := by decide +kernel
theorem dX5_knows_18 : decode cX5_knows 18 = .ok (.goto 4, 3) := by decide +kernel
theorem dX5_knows_21 : decode cX5_knows 21 = .ok (.iconst 0, 1) := by decide +kernel
theorem dX5_knows_22 : decode cX5_knows 22 = .ok (.ireturn, 1) := by decide +kernel
theorem dX5_line_0 : decode cX5_line 0 = .ok (.aload_n 0, 1) := by decide +kernel
theorem dX5_line_1 : decode cX5_line 1 = .ok (.getfield 9, 3) := by decide +kernel
theorem dX5_line_4 : decode cX5_line 4 = .ok (.iload_n 1, 1) := by decide +kernel
theorem dX5_line_5 : decode cX5_line 5 = .ok (.bipush 10, 2) := by decide +kernel
theorem dX5_line_7 : decode cX5_line 7 = .ok (.isub, 1) := by decide +kernel
theorem dX5_line_8 : decode cX5_line 8 = .ok (.iaload, 1) := by decide +kernel
theorem dX5_line_9 : decode cX5_line 9 = .ok (.ireturn, 1) := by decide +kernel
set_option maxRecDepth 20000 in
theorem ggX5_isStruck_X6_contains : GoodIn wsX5_isStruck wsX6_contains := goodIn_r _ [4] (by decide +kernel) (by decide +kernel)
set_option maxRecDepth 20000 in
theorem gX5_isStruck_X6_contains_n22 : GoodIn wsX5_isStruck (wsX6_contains) := ggX5_isStruck_X6_contains
theorem dX5_isStruck_0 : decode cX5_isStruck 0 = .ok (.aload_n 0, 1) := by decide +kernel
theorem dX5_isStruck_1 : decode cX5_isStruck 1 = .ok (.getfield 19, 3) := by decide +kernel
theorem dX5_isStruck_4 : decode cX5_isStruck 4 = .ok (.iload_n 1, 1) := by decide +kernel
theorem dX5_isStruck_5 : decode cX5_isStruck 5 = .ok (.bipush 10, 2) := by decide +kernel
theorem dX5_isStruck_7 : decode cX5_isStruck 7 = .ok (.isub, 1) := by decide +kernel
theorem dX5_isStruck_8 : decode cX5_isStruck 8 = .ok (.invokestatic 22, 3) := by decide +kernel
theorem dX5_isStruck_11 : decode cX5_isStruck 11 = .ok (.ireturn, 1) := by decide +kernel
set_option maxRecDepth 20000 in
theorem ggX5_countStruck_J6_bitCount_0f7a4 : GoodIn wsX5_countStruck wsJ6_bitCount_0f7a4 := goodIn_r _ [5, 6, 7, 8] (by decide +kernel) (by decide +kernel)
set_option maxRecDepth 20000 in
theorem gX5_countStruck_J6_bitCount_0f7a4 : GoodIn wsX5_countStruck (va_wsS RX5 26 yJ6_bitCount_0f7a4 wsJ6_bitCount_0f7a4) := goodIn_app (goodIn_of _ (by decide +kernel)) ggX5_countStruck_J6_bitCount_0f7a4
theorem dX5_countStruck_0 : decode cX5_countStruck 0 = .ok (.aload_n 0, 1) := by decide +kernel
theorem dX5_countStruck_1 : decode cX5_countStruck 1 = .ok (.getfield 19, 3) := by decide +kernel
theorem dX5_countStruck_4 : decode cX5_countStruck 4 = .ok (.invokestatic 26, 3) := by decide +kernel
theorem dX5_countStruck_7 : decode cX5_countStruck 7 = .ok (.ireturn, 1) := by decide +kernel
theorem dX5_add_0 : decode cX5_add 0 = .ok (.aload_n 0, 1) := by decide +kernel
theorem dX5_add_1 : decode cX5_add 1 = .ok (.getfield 9, 3) := by decide +kernel
theorem dX5_add_4 : decode cX5_add 4 = .ok (.aload_n 0, 1) := by decide +kernel
theorem dX5_add_5 : decode cX5_add 5 = .ok (.getfield 15, 3) := by decide +kernel
theorem dX5_add_8 : decode cX5_add 8 = .ok (.iload_n 1, 1) := by decide +kernel
theorem dX5_add_9 : decode cX5_add 9 = .ok (.iastore, 1) := by decide +kernel
theorem dX5_add_10 : decode cX5_add 10 = .ok (.aload_n 0, 1) := by decide +kernel
theorem dX5_add_11 : decode cX5_add 11 = .ok (.dup, 1) := by decide +kernel
theorem dX5_add_12 : decode cX5_add 12 = .ok (.getfield 15, 3) := by decide +kernel
theorem dX5_add_15 : decode cX5_add 15 = .ok (.iconst 1, 1) := by decide +kernel
theorem dX5_add_16 : decode cX5_add 16 = .ok (.iadd, 1) := by decide +kernel
theorem dX5_add_17 : decode cX5_add 17 = .ok (.putfield 15, 3) := by decide +kernel
theorem dX5_add_20 : decode cX5_add 20 = .ok (.bipush 10, 2) := by decide +kernel
theorem dX5_add_22 : decode cX5_add 22 = .ok (.aload_n 0, 1) := by decide +kernel
theorem dX5_add_23 : decode cX5_add 23 = .ok (.getfield 15, 3) := by decide +kernel
theorem dX5_add_26 : decode cX5_add 26 = .ok (.iadd, 1) := by decide +kernel
theorem dX5_add_27 : decode cX5_add 27 = .ok (.iconst 1, 1) := by decide +kernel
theorem dX5_add_28 : decode cX5_add 28 = .ok (.isub, 1) := by decide +kernel
theorem dX5_add_29 : decode cX5_add 29 = .ok (.ireturn, 1) := by decide +kernel
set_option maxRecDepth 20000 in
theorem ggX5_strike_X5_countStruck : GoodIn wsX5_strike wsX5_countStruck := goodIn_r _ [8, 3, 9, 10, 11, 12, 13, 14, 15, 26, 27, 28] (by decide +kernel) (by decide +kernel)
set_option maxRecDepth 20000 in
theorem gX5_strike_X5_countStruck : GoodIn wsX5_strike (wsV RX5 32 RX5 yX5_countStruck wsX5_countStruck) := goodIn_app (goodIn_of _ (by decide +kernel)) ggX5_strike_X5_countStruck
set_option maxRecDepth 20000 in
theorem ggX5_strike_X0_firstPairWithin : GoodIn wsX5_strike wsX0_firstPairWithin := goodIn_r _ [20, 21, 22, 23, 24, 25, 29, 30, 31, 32] (by decide +kernel) (by decide +kernel)
set_option maxRecDepth 20000 in
theorem gX5_strike_X0_firstPairWithin : GoodIn wsX5_strike (wsV RX5 36 RX0 yX0_firstPairWithin wsX0_firstPairWithin) := goodIn_app (goodIn_of _ (by decide +kernel)) ggX5_strike_X0_firstPairWithin
theorem dX5_strike_0 : decode cX5_strike 0 = .ok (.aload_n 0, 1) := by decide +kernel
theorem dX5_strike_1 : decode cX5_strike 1 = .ok (.invokevirtual 32, 3) := by decide +kernel
theorem dX5_strike_4 : decode cX5_strike 4 = .ok (.istore_n 2, 1) := by decide +kernel
theorem dX5_strike_5 : decode cX5_strike 5 = .ok (.iconst 0, 1) := by decide +kernel
theorem dX5_strike_6 : decode cX5_strike 6 = .ok (.istore_n 3, 1) := by decide +kernel
theorem dX5_strike_7 : decode cX5_strike 7 = .ok (.iload_n 3, 1) := by decide +kernel
theorem dX5_strike_8 : decode cX5_strike 8 = .ok (.aload_n 0, 1) := by decide +kernel
theorem dX5_strike_9 : decode cX5_strike 9 = .ok (.getfield 15, 3) := by decide +kernel
theorem dX5_strike_12 : decode cX5_strike 12 = .ok (.if_icmp .ge 35, 3) := by decide +kernel
theorem dX5_strike_15 : decode cX5_strike 15 = .ok (.aload_n 1, 1) := by decide +kernel
theorem dX5_strike_16 : decode cX5_strike 16 = .ok (.aload_n 0, 1) := by decide +kernel
theorem dX5_strike_17 : decode cX5_strike 17 = .ok (.getfield 9, 3) := by decide +kernel
theorem dX5_strike_20 : decode cX5_strike 20 = .ok (.iload_n 3, 1) := by decide +kernel
theorem dX5_strike_21 : decode cX5_strike 21 = .ok (.iaload, 1) := by decide +kernel
theorem dX5_strike_22 : decode cX5_strike 22 = .ok (.invokevirtual 36, 3) := by decide +kernel
theorem dX5_strike_25 : decode cX5_strike 25 = .ok (.iconst (-1), 1) := by decide +kernel
theorem dX5_strike_26 : decode cX5_strike 26 = .ok (.if_icmp .eq 15, 3) := by decide +kernel
theorem dX5_strike_29 : decode cX5_strike 29 = .ok (.aload_n 0, 1) := by decide +kernel
theorem dX5_strike_30 : decode cX5_strike 30 = .ok (.dup, 1) := by decide +kernel
theorem dX5_strike_31 : decode cX5_strike 31 = .ok (.getfield 19, 3) := by decide +kernel
theorem dX5_strike_34 : decode cX5_strike 34 = .ok (.iconst 1, 1) := by decide +kernel
theorem dX5_strike_35 : decode cX5_strike 35 = .ok (.iload_n 3, 1) := by decide +kernel
theorem dX5_strike_36 : decode cX5_strike 36 = .ok (.ishl, 1) := by decide +kernel
theorem dX5_strike_37 : decode cX5_strike 37 = .ok (.ior, 1) := by decide +kernel
theorem dX5_strike_38 : decode cX5_strike 38 = .ok (.putfield 19, 3) := by decide +kernel
theorem dX5_strike_41 : decode cX5_strike 41 = .ok (.iinc 3 1, 3) := by decide +kernel
theorem dX5_strike_44 : decode cX5_strike 44 = .ok (.goto (-37), 3) := by decide +kernel
theorem dX5_strike_47 : decode cX5_strike 47 = .ok (.aload_n 0, 1) := by decide +kernel
theorem dX5_strike_48 : decode cX5_strike 48 = .ok (.invokevirtual 32, 3) := by decide +kernel
theorem dX5_strike_51 : decode cX5_strike 51 = .ok (.iload_n 2, 1) := by decide +kernel
theorem dX5_strike_52 : decode cX5_strike 52 = .ok (.isub, 1) := by decide +kernel
theorem dX5_strike_53 : decode cX5_strike 53 = .ok (.ireturn, 1) := by decide +kernel
set_option maxRecDepth 20000 in
theorem ggX5_countWith_X6_contains : GoodIn wsX5_countWith wsX6_contains := goodIn_r _ [6] (by decide +kernel) (by decide +kernel)
set_option maxRecDepth 20000 in
theorem gX5_countWith_X6_contains_n22 : GoodIn wsX5_countWith (wsX6_contains) := ggX5_countWith_X6_contains
theorem dX5_countWith_0 : decode cX5_countWith 0 = .ok (.iconst 0, 1) := by decide +kernel
theorem dX5_countWith_1 : decode cX5_countWith 1 = .ok (.istore_n 2, 1) := by decide +kernel
theorem dX5_countWith_2 : decode cX5_countWith 2 = .ok (.iconst 0, 1) := by decide +kernel
theorem dX5_countWith_3 : decode cX5_countWith 3 = .ok (.istore_n 3, 1) := by decide +kernel
theorem dX5_countWith_4 : decode cX5_countWith 4 = .ok (.iload_n 3, 1) := by decide +kernel
theorem dX5_countWith_5 : decode cX5_countWith 5 = .ok (.aload_n 0, 1) := by decide +kernel
theorem dX5_countWith_6 : decode cX5_countWith 6 = .ok (.getfield 15, 3) := by decide +kernel
theorem dX5_countWith_9 : decode cX5_countWith 9 = .ok (.if_icmp .ge 36, 3) := by decide +kernel
theorem dX5_countWith_12 : decode cX5_countWith 12 = .ok (.aload_n 0, 1) := by decide +kernel
theorem dX5_countWith_13 : decode cX5_countWith 13 = .ok (.getfield 19, 3) := by decide +kernel
theorem dX5_countWith_16 : decode cX5_countWith 16 = .ok (.iload_n 3, 1) := by decide +kernel
theorem dX5_countWith_17 : decode cX5_countWith 17 = .ok (.invokestatic 22, 3) := by decide +kernel
theorem dX5_countWith_20 : decode cX5_countWith 20 = .ok (.ifCond .ne 19, 3) := by decide +kernel
theorem dX5_countWith_23 : decode cX5_countWith 23 = .ok (.aload_n 0, 1) := by decide +kernel
theorem dX5_countWith_24 : decode cX5_countWith 24 = .ok (.getfield 9, 3) := by decide +kernel
theorem dX5_countWith_27 : decode cX5_countWith 27 = .ok (.iload_n 3, 1) := by decide +kernel
theorem dX5_countWith_28 : decode cX5_countWith 28 = .ok (.iaload, 1) := by decide +kernel
theorem dX5_countWith_29 : decode cX5_countWith 29 = .ok (.iload_n 1, 1) := by decide +kernel
theorem dX5_countWith_30 : decode cX5_countWith 30 = .ok (.invokestatic 22, 3) := by decide +kernel
theorem dX5_countWith_33 : decode cX5_countWith 33 = .ok (.ifCond .eq 6, 3) := by decide +kernel
theorem dX5_countWith_36 : decode cX5_countWith 36 = .ok (.iinc 2 1, 3) := by decide +kernel
theorem dX5_countWith_39 : decode cX5_countWith 39 = .ok (.iinc 3 1, 3) := by decide +kernel
theorem dX5_countWith_42 : decode cX5_countWith 42 = .ok (.goto (-38), 3) := by decide +kernel
theorem dX5_countWith_45 : decode cX5_countWith 45 = .ok (.iload_n 2, 1) := by decide +kernel
theorem dX5_countWith_46 : decode cX5_countWith 46 = .ok (.ireturn, 1) := by decide +kernel
set_option maxRecDepth 20000 in
theorem ggX5_areSound_X6_contains : GoodIn wsX5_areSound wsX6_contains := goodIn_r _ [6] (by decide +kernel) (by decide +kernel)
set_option maxRecDepth 20000 in
theorem gX5_areSound_X6_contains_n22 : GoodIn wsX5_areSound (wsX6_contains) := ggX5_areSound_X6_contains
set_option maxRecDepth 20000 in
theorem ggX5_areSound_X0_firstPairWithin : GoodIn wsX5_areSound wsX0_firstPairWithin := goodIn_r _ [11, 12, 13, 4, 5, 6, 17, 18, 19, 20] (by decide +kernel) (by decide +kernel)
set_option maxRecDepth 20000 in
theorem gX5_areSound_X0_firstPairWithin : GoodIn wsX5_areSound (wsV RX5 36 RX0 yX0_firstPairWithin wsX0_firstPairWithin) := goodIn_app (goodIn_of _ (by decide +kernel)) ggX5_areSound_X0_firstPairWithin
theorem dX5_areSound_0 : decode cX5_areSound 0 = .ok (.iconst 0, 1) := by decide +kernel
theorem dX5_areSound_1 : decode cX5_areSound 1 = .ok (.istore_n 2, 1) := by decide +kernel
theorem dX5_areSound_2 : decode cX5_areSound 2 = .ok (.iload_n 2, 1) := by decide +kernel
theorem dX5_areSound_3 : decode cX5_areSound 3 = .ok (.aload_n 0, 1) := by decide +kernel
theorem dX5_areSound_4 : decode cX5_areSound 4 = .ok (.getfield 15, 3) := by decide +kernel
theorem dX5_areSound_7 : decode cX5_areSound 7 = .ok (.if_icmp .ge 36, 3) := by decide +kernel
theorem dX5_areSound_10 : decode cX5_areSound 10 = .ok (.aload_n 0, 1) := by decide +kernel
theorem dX5_areSound_11 : decode cX5_areSound 11 = .ok (.getfield 19, 3) := by decide +kernel
theorem dX5_areSound_14 : decode cX5_areSound 14 = .ok (.iload_n 2, 1) := by decide +kernel
theorem dX5_areSound_15 : decode cX5_areSound 15 = .ok (.invokestatic 22, 3) := by decide +kernel
theorem dX5_areSound_18 : decode cX5_areSound 18 = .ok (.ifCond .ne 19, 3) := by decide +kernel
theorem dX5_areSound_21 : decode cX5_areSound 21 = .ok (.aload_n 1, 1) := by decide +kernel
theorem dX5_areSound_22 : decode cX5_areSound 22 = .ok (.aload_n 0, 1) := by decide +kernel
theorem dX5_areSound_23 : decode cX5_areSound 23 = .ok (.getfield 9, 3) := by decide +kernel
theorem dX5_areSound_26 : decode cX5_areSound 26 = .ok (.iload_n 2, 1) := by decide +kernel
theorem dX5_areSound_27 : decode cX5_areSound 27 = .ok (.iaload, 1) := by decide +kernel
theorem dX5_areSound_28 : decode cX5_areSound 28 = .ok (.invokevirtual 36, 3) := by decide +kernel
theorem dX5_areSound_31 : decode cX5_areSound 31 = .ok (.iconst (-1), 1) := by decide +kernel
theorem dX5_areSound_32 : decode cX5_areSound 32 = .ok (.if_icmp .eq 5, 3) := by decide +kernel
theorem dX5_areSound_35 : decode cX5_areSound 35 = .ok (.iconst 0, 1) := by decide +kernel
theorem dX5_areSound_36 : decode cX5_areSound 36 = .ok (.ireturn, 1) := by decide +kernel
theorem dX5_areSound_37 : decode cX5_areSound 37 = .ok (.iinc 2 1, 3) := by decide +kernel
theorem dX5_areSound_40 : decode cX5_areSound 40 = .ok (.goto (-38), 3) := by decide +kernel
theorem dX5_areSound_43 : decode cX5_areSound 43 = .ok (.iconst 1, 1) := by decide +kernel
theorem dX5_areSound_44 : decode cX5_areSound 44 = .ok (.ireturn, 1) := by decide +kernel
set_option maxRecDepth 20000 in
theorem ggX6_init_X0_init : GoodIn wsX6_init wsX0_init := goodIn_r _ [21, 22, 2, 3, 23, 24, 25, 26, 27, 28, 29, 30, 31, 32, 33, 95, 66, 67, 68, 69] (by decide +kernel) (by decide +kernel)
set_option maxRecDepth 20000 in
theorem gX6_init_X0_init_n9 : GoodIn wsX6_init (wsX0_init) := ggX6_init_X0_init
set_option maxRecDepth 20000 in
theorem ggX6_init_X5_init : GoodIn wsX6_init wsX5_init := goodIn_r _ [35, 36, 2, 3, 27, 37, 75, 76, 77] (by decide +kernel) (by decide +kernel)
set_option maxRecDepth 20000 in
theorem gX6_init_X5_init_n18 : GoodIn wsX6_init (wsX5_init) := ggX6_init_X5_init
set_option maxRecDepth 20000 in
theorem ggX6_init_X2_init : GoodIn wsX6_init wsX2_init := goodIn_r _ [39, 40, 2, 3, 27, 41, 42, 43, 44, 24, 25, 45, 30, 31, 32, 33, 78, 79, 80, 81, 82, 83, 84, 85, 95] (by decide +kernel) (by decide +kernel)
set_option maxRecDepth 20000 in
theorem gX6_init_X2_init_n25 : GoodIn wsX6_init (wsX2_init) := ggX6_init_X2_init
set_option maxRecDepth 20000 in
theorem ggX6_init_X4_init : GoodIn wsX6_init wsX4_init := goodIn_r _ [47, 48, 2, 3, 27, 49, 50, 24, 25, 51, 52, 53, 54, 55, 56, 57, 58, 59, 30, 31, 32, 33, 60, 61, 62, 63, 64, 65, 86, 87, 88, 89, 90, 91, 92, 93, 94, 95, 96, 97, 98] (by decide +kernel) (by decide +kernel)
set_option maxRecDepth 20000 in
theorem gX6_init_X4_init_n32 : GoodIn wsX6_init (wsX4_init) := ggX6_init_X4_init
theorem dX6_init_0 : decode cX6_init 0 = .ok (.aload_n 0, 1) := by decide +kernel
theorem dX6_init_1 : decode cX6_init 1 = .ok (.invokespecial 1, 3) := by decide +kernel
theorem dX6_init_4 : decode cX6_init 4 = .ok (.aload_n 0, 1) := by decide +kernel
theorem dX6_init_5 : decode cX6_init 5 = .ok (.new 7, 3) := by decide +kernel
theorem dX6_init_8 : decode cX6_init 8 = .ok (.dup, 1) := by decide +kernel
theorem dX6_init_9 : decode cX6_init 9 = .ok (.invokespecial 9, 3) := by decide +kernel
theorem dX6_init_12 : decode cX6_init 12 = .ok (.putfield 10, 3) := by decide +kernel
theorem dX6_init_15 : decode cX6_init 15 = .ok (.aload_n 0, 1) := by decide +kernel
theorem dX6_init_16 : decode cX6_init 16 = .ok (.new 16, 3) := by decide +kernel
theorem dX6_init_19 : decode cX6_init 19 = .ok (.dup, 1) := by decide +kernel
theorem dX6_init_20 : decode cX6_init 20 = .ok (.invokespecial 18, 3) := by decide +kernel
theorem dX6_init_23 : decode cX6_init 23 = .ok (.putfield 19, 3) := by decide +kernel
theorem dX6_init_26 : decode cX6_init 26 = .ok (.aload_n 0, 1) := by decide +kernel
theorem dX6_init_27 : decode cX6_init 27 = .ok (.new 23, 3) := by decide +kernel
theorem dX6_init_30 : decode cX6_init 30 = .ok (.dup, 1) := by decide +kernel
theorem dX6_init_31 : decode cX6_init 31 = .ok (.invokespecial 25, 3) := by decide +kernel
theorem dX6_init_34 : decode cX6_init 34 = .ok (.putfield 26, 3) := by decide +kernel
theorem dX6_init_37 : decode cX6_init 37 = .ok (.aload_n 0, 1) := by decide +kernel
theorem dX6_init_38 : decode cX6_init 38 = .ok (.new 30, 3) := by decide +kernel
theorem dX6_init_41 : decode cX6_init 41 = .ok (.dup, 1) := by decide +kernel
theorem dX6_init_42 : decode cX6_init 42 = .ok (.invokespecial 32, 3) := by decide +kernel
theorem dX6_init_45 : decode cX6_init 45 = .ok (.putfield 33, 3) := by decide +kernel
theorem dX6_init_48 : decode cX6_init 48 = .ok (.return_, 1) := by decide +kernel
set_option maxRecDepth 20000 in
theorem ggX6_source_X0_count : GoodIn wsX6_source wsX0_count := goodIn_r _ [8, 9, 19, 20, 21, 22] (by decide +kernel) (by decide +kernel)
set_option maxRecDepth 20000 in
theorem gX6_source_X0_count : GoodIn wsX6_source (wsV RX6 37 RX0 yX0_count wsX0_count) := goodIn_app (goodIn_of _ (by decide +kernel)) ggX6_source_X0_count
set_option maxRecDepth 20000 in
theorem ggX6_source_X0_addSource : GoodIn wsX6_source wsX0_addSource := goodIn_r _ [13, 9, 19, 20, 21, 22] (by decide +kernel) (by decide +kernel)
set_option maxRecDepth 20000 in
theorem gX6_source_X0_addSource : GoodIn wsX6_source (wsV RX6 48 RX0 yX0_addSource wsX0_addSource) := goodIn_app (goodIn_of _ (by decide +kernel)) ggX6_source_X0_addSource
theorem dX6_source_0 : decode cX6_source 0 = .ok (.aload_n 0, 1) := by decide +kernel
theorem dX6_source_1 : decode cX6_source 1 = .ok (.getfield 10, 3) := by decide +kernel
theorem dX6_source_4 : decode cX6_source 4 = .ok (.invokevirtual 37, 3) := by decide +kernel
theorem dX6_source_7 : decode cX6_source 7 = .ok (.bipush 7, 2) := by decide +kernel
theorem dX6_source_9 : decode cX6_source 9 = .ok (.if_icmp .lt 13, 3) := by decide +kernel
theorem dX6_source_12 : decode cX6_source 12 = .ok (.new 41, 3) := by decide +kernel
theorem dX6_source_15 : decode cX6_source 15 = .ok (.dup, 1) := by decide +kernel
theorem dX6_source_16 : decode cX6_source 16 = .ok (.ldc 43, 2) := by decide +kernel
theorem dX6_source_18 : decode cX6_source 18 = .ok (.invokespecial 45, 3) := by decide +kernel
theorem dX6_source_21 : decode cX6_source 21 = .ok (.athrow, 1) := by decide +kernel
theorem dX6_source_22 : decode cX6_source 22 = .ok (.aload_n 0, 1) := by decide +kernel
theorem dX6_source_23 : decode cX6_source 23 = .ok (.getfield 10, 3) := by decide +kernel
theorem dX6_source_26 : decode cX6_source 26 = .ok (.invokevirtual 48, 3) := by decide +kernel
theorem dX6_source_29 : decode cX6_source 29 = .ok (.ireturn, 1) := by decide +kernel
set_option maxRecDepth 20000 in
theorem ggX6_kin_X6_needSource : GoodIn wsX6_kin wsX6_needSource := goodIn_ca (goodIn_r _ [8, 9, 10, 3, 11, 12, 13, 14, 15, 16, 121, 122, 123, 124, 125, 126, 127, 128, 129] (by decide +kernel) (by decide +kernel)) (goodIn_sub (fun _ h => List.mem_cons_of_mem _ (List.mem_append_right _ h)) (by decide +kernel))
set_option maxRecDepth 20000 in
theorem gX6_kin_X6_needSource : GoodIn wsX6_kin (wsV RX6 51 RX6 yX6_needSource wsX6_needSource) := goodIn_app (goodIn_of _ (by decide +kernel)) ggX6_kin_X6_needSource
set_option maxRecDepth 20000 in
theorem ggX6_kin_X0_tellKin : GoodIn wsX6_kin wsX0_tellKin := goodIn_r _ [20, 21, 22, 23, 24, 25, 26, 27, 28, 29, 30, 31, 32, 33, 34, 14, 35, 36, 37, 38, 39, 40, 41, 42, 43, 44, 45, 46, 7, 47, 126, 127, 128, 129, 130] (by decide +kernel) (by decide +kernel)
set_option maxRecDepth 20000 in
theorem gX6_kin_X0_tellKin : GoodIn wsX6_kin (wsV RX6 60 RX0 yX0_tellKin wsX0_tellKin) := goodIn_app (goodIn_of _ (by decide +kernel)) ggX6_kin_X0_tellKin
set_option maxRecDepth 20000 in
theorem ggX6_kin_X6_applyBar : GoodIn wsX6_kin wsX6_applyBar := goodIn_r _ [51, 52, 3, 53, 54, 55, 56, 57, 58, 59, 60, 61, 62, 63, 64, 65, 66, 67, 68, 69, 70, 71, 46, 7, 47, 72, 73, 74, 75, 76, 77, 78, 79, 80, 81, 82, 83, 84, 85, 86, 87, 88, 89, 90, 91, 92, 25, 93, 27, 94, 23, 24, 26, 95, 96, 97, 14, 98, 16, 99, 100, 101, 102, 36, 103, 39, 40, 41, 42, 43, 44, 45, 104, 105, 106, 107, 108, 109, 110, 111, 112, 113, 114, 115, 116, 117, 118, 119, 120, 121, 122, 123, 124, 125, 131, 132, 133, 134, 135, 136, 137, 138, 130, 126, 127, 128, 129, 139, 140, 141] (by decide +kernel) (by decide +kernel)
set_option maxRecDepth 20000 in
theorem gX6_kin_X6_applyBar : GoodIn wsX6_kin (wsV RX6 64 RX6 yX6_applyBar wsX6_applyBar) := goodIn_app (goodIn_of _ (by decide +kernel)) ggX6_kin_X6_applyBar
theorem dX6_kin_0 : decode cX6_kin 0 = .ok (.aload_n 0, 1) := by decide +kernel
theorem dX6_kin_1 : decode cX6_kin 1 = .ok (.iload_n 1, 1) := by decide +kernel
theorem dX6_kin_2 : decode cX6_kin 2 = .ok (.invokevirtual 51, 3) := by decide +kernel
theorem dX6_kin_5 : decode cX6_kin 5 = .ok (.aload_n 0, 1) := by decide +kernel
theorem dX6_kin_6 : decode cX6_kin 6 = .ok (.iload_n 2, 1) := by decide +kernel
theorem dX6_kin_7 : decode cX6_kin 7 = .ok (.invokevirtual 51, 3) := by decide +kernel
theorem dX6_kin_10 : decode cX6_kin 10 = .ok (.iload_n 1, 1) := by decide +kernel
theorem dX6_kin_11 : decode cX6_kin 11 = .ok (.iload_n 2, 1) := by decide +kernel
theorem dX6_kin_12 : decode cX6_kin 12 = .ok (.if_icmp .ne 13, 3) := by decide +kernel
theorem dX6_kin_15 : decode cX6_kin 15 = .ok (.new 55, 3) := by decide +kernel
theorem dX6_kin_18 : decode cX6_kin 18 = .ok (.dup, 1) := by decide +kernel
theorem dX6_kin_19 : decode cX6_kin 19 = .ok (.ldc 57, 2) := by decide +kernel
theorem dX6_kin_21 : decode cX6_kin 21 = .ok (.invokespecial 59, 3) := by decide +kernel
theorem dX6_kin_24 : decode cX6_kin 24 = .ok (.athrow, 1) := by decide +kernel
theorem dX6_kin_25 : decode cX6_kin 25 = .ok (.aload_n 0, 1) := by decide +kernel
theorem dX6_kin_26 : decode cX6_kin 26 = .ok (.getfield 10, 3) := by decide +kernel
theorem dX6_kin_29 : decode cX6_kin 29 = .ok (.iload_n 1, 1) := by decide +kernel
theorem dX6_kin_30 : decode cX6_kin 30 = .ok (.iload_n 2, 1) := by decide +kernel
theorem dX6_kin_31 : decode cX6_kin 31 = .ok (.iload_n 3, 1) := by decide +kernel
theorem dX6_kin_32 : decode cX6_kin 32 = .ok (.invokevirtual 60, 3) := by decide +kernel
theorem dX6_kin_35 : decode cX6_kin 35 = .ok (.aload_n 0, 1) := by decide +kernel
theorem dX6_kin_36 : decode cX6_kin 36 = .ok (.invokevirtual 64, 3) := by decide +kernel
theorem dX6_kin_39 : decode cX6_kin 39 = .ok (.ireturn, 1) := by decide +kernel
set_option maxRecDepth 20000 in
theorem ggX6_bar_X0_tellBar : GoodIn wsX6_bar wsX0_tellBar := goodIn_r _ [8, 9, 10, 11, 12, 7, 13, 14, 15, 16, 17, 18, 19, 20, 21, 22, 23, 24, 25, 26, 27, 28, 111, 112, 113, 114, 115] (by decide +kernel) (by decide +kernel)
set_option maxRecDepth 20000 in
theorem gX6_bar_X0_tellBar : GoodIn wsX6_bar (wsV RX6 69 RX0 yX0_tellBar wsX0_tellBar) := goodIn_app (goodIn_of _ (by decide +kernel)) ggX6_bar_X0_tellBar
set_option maxRecDepth 20000 in
theorem ggX6_bar_X6_applyBar : GoodIn wsX6_bar wsX6_applyBar := goodIn_r _ [32, 33, 3, 34, 35, 36, 37, 38, 39, 40, 41, 42, 43, 44, 45, 46, 47, 48, 49, 50, 51, 52, 26, 27, 28, 53, 54, 55, 56, 57, 58, 59, 60, 61, 62, 63, 64, 65, 66, 67, 68, 69, 70, 71, 72, 73, 19, 74, 25, 75, 76, 77, 78, 79, 80, 81, 7, 82, 83, 84, 85, 86, 87, 14, 88, 17, 18, 20, 21, 22, 23, 24, 89, 90, 91, 92, 93, 94, 95, 96, 97, 98, 99, 100, 101, 102, 103, 104, 105, 106, 107, 108, 109, 110, 116, 117, 118, 119, 120, 121, 122, 123, 115, 111, 112, 113, 114, 124, 125, 126] (by decide +kernel) (by decide +kernel)
set_option maxRecDepth 20000 in
theorem gX6_bar_X6_applyBar : GoodIn wsX6_bar (wsV RX6 64 RX6 yX6_applyBar wsX6_applyBar) := goodIn_app (goodIn_of _ (by decide +kernel)) ggX6_bar_X6_applyBar
theorem dX6_bar_0 : decode cX6_bar 0 = .ok (.iload_n 1, 1) := by decide +kernel
theorem dX6_bar_1 : decode cX6_bar 1 = .ok (.ifCond .lt 8, 3) := by decide +kernel
theorem dX6_bar_4 : decode cX6_bar 4 = .ok (.iload_n 1, 1) := by decide +kernel
theorem dX6_bar_5 : decode cX6_bar 5 = .ok (.iconst 5, 1) := by decide +kernel
theorem dX6_bar_6 : decode cX6_bar 6 = .ok (.if_icmp .le 13, 3) := by decide +kernel
theorem dX6_bar_9 : decode cX6_bar 9 = .ok (.new 55, 3) := by decide +kernel
theorem dX6_bar_12 : decode cX6_bar 12 = .ok (.dup, 1) := by decide +kernel
theorem dX6_bar_13 : decode cX6_bar 13 = .ok (.ldc 67, 2) := by decide +kernel
theorem dX6_bar_15 : decode cX6_bar 15 = .ok (.invokespecial 59, 3) := by decide +kernel
theorem dX6_bar_18 : decode cX6_bar 18 = .ok (.athrow, 1) := by decide +kernel
theorem dX6_bar_19 : decode cX6_bar 19 = .ok (.aload_n 0, 1) := by decide +kernel
theorem dX6_bar_20 : decode cX6_bar 20 = .ok (.getfield 10, 3) := by decide +kernel
theorem dX6_bar_23 : decode cX6_bar 23 = .ok (.iload_n 1, 1) := by decide +kernel
theorem dX6_bar_24 : decode cX6_bar 24 = .ok (.invokevirtual 69, 3) := by decide +kernel
theorem dX6_bar_27 : decode cX6_bar 27 = .ok (.aload_n 0, 1) := by decide +kernel
theorem dX6_bar_28 : decode cX6_bar 28 = .ok (.invokevirtual 64, 3) := by decide +kernel
theorem dX6_bar_31 : decode cX6_bar 31 = .ok (.ireturn, 1) := by decide +kernel
set_option maxRecDepth 20000 in
theorem ggX6_join_X6_lineOf : GoodIn wsX6_join wsX6_lineOf := goodIn_ca (goodIn_r _ [9, 10, 11, 3, 4, 12, 13, 14, 15, 16, 17, 18, 19, 20, 21, 22, 23, 24, 25, 26, 27, 28, 29, 8, 30, 31, 32, 33, 34, 35, 49, 50, 51, 52, 53, 54, 55, 56, 57, 58, 59, 60] (by decide +kernel) (by decide +kernel)) (goodIn_sub (fun _ h => List.mem_cons_of_mem _ (List.mem_append_right _ h)) (by decide +kernel))
set_option maxRecDepth 20000 in
theorem gX6_join_X6_lineOf : GoodIn wsX6_join (wsV RX6 72 RX6 yX6_lineOf wsX6_lineOf) := goodIn_app (goodIn_of _ (by decide +kernel)) ggX6_join_X6_lineOf
set_option maxRecDepth 20000 in
theorem ggX6_join_X0_firstPairWithin : GoodIn wsX6_join wsX0_firstPairWithin := goodIn_r _ [39, 17, 40, 29, 8, 30, 54, 55, 56, 57] (by decide +kernel) (by decide +kernel)
set_option maxRecDepth 20000 in
theorem gX6_join_X0_firstPairWithin : GoodIn wsX6_join (wsV RX6 76 RX0 yX0_firstPairWithin wsX0_firstPairWithin) := goodIn_app (goodIn_of _ (by decide +kernel)) ggX6_join_X0_firstPairWithin
set_option maxRecDepth 20000 in
theorem ggX6_join_X5_count : GoodIn wsX6_join wsX5_count := goodIn_r _ [44, 23, 58, 59, 60] (by decide +kernel) (by decide +kernel)
set_option maxRecDepth 20000 in
theorem gX6_join_X5_count : GoodIn wsX6_join (wsV RX6 81 RX5 yX5_count wsX5_count) := goodIn_app (goodIn_of _ (by decide +kernel)) ggX6_join_X5_count
set_option maxRecDepth 20000 in
theorem ggX6_join_X5_add : GoodIn wsX6_join wsX5_add := goodIn_r _ [48, 35, 23, 58, 59, 60] (by decide +kernel) (by decide +kernel)
set_option maxRecDepth 20000 in
theorem gX6_join_X5_add : GoodIn wsX6_join (wsV RX6 84 RX5 yX5_add wsX5_add) := goodIn_app (goodIn_of _ (by decide +kernel)) ggX6_join_X5_add
theorem dX6_join_0 : decode cX6_join 0 = .ok (.aload_n 0, 1) := by decide +kernel
theorem dX6_join_1 : decode cX6_join 1 = .ok (.iload_n 1, 1) := by decide +kernel
theorem dX6_join_2 : decode cX6_join 2 = .ok (.invokevirtual 72, 3) := by decide +kernel
theorem dX6_join_5 : decode cX6_join 5 = .ok (.aload_n 0, 1) := by decide +kernel
theorem dX6_join_6 : decode cX6_join 6 = .ok (.iload_n 2, 1) := by decide +kernel
theorem dX6_join_7 : decode cX6_join 7 = .ok (.invokevirtual 72, 3) := by decide +kernel
theorem dX6_join_10 : decode cX6_join 10 = .ok (.ior, 1) := by decide +kernel
theorem dX6_join_11 : decode cX6_join 11 = .ok (.istore_n 3, 1) := by decide +kernel
theorem dX6_join_12 : decode cX6_join 12 = .ok (.aload_n 0, 1) := by decide +kernel
theorem dX6_join_13 : decode cX6_join 13 = .ok (.getfield 10, 3) := by decide +kernel
theorem dX6_join_16 : decode cX6_join 16 = .ok (.iload_n 3, 1) := by decide +kernel
theorem dX6_join_17 : decode cX6_join 17 = .ok (.invokevirtual 76, 3) := by decide +kernel
theorem dX6_join_20 : decode cX6_join 20 = .ok (.iconst (-1), 1) := by decide +kernel
theorem dX6_join_21 : decode cX6_join 21 = .ok (.if_icmp .eq 13, 3) := by decide +kernel
theorem dX6_join_24 : decode cX6_join 24 = .ok (.new 41, 3) := by decide +kernel
theorem dX6_join_27 : decode cX6_join 27 = .ok (.dup, 1) := by decide +kernel
theorem dX6_join_28 : decode cX6_join 28 = .ok (.ldc 79, 2) := by decide +kernel
theorem dX6_join_30 : decode cX6_join 30 = .ok (.invokespecial 45, 3) := by decide +kernel
theorem dX6_join_33 : decode cX6_join 33 = .ok (.athrow, 1) := by decide +kernel
theorem dX6_join_34 : decode cX6_join 34 = .ok (.aload_n 0, 1) := by decide +kernel
theorem dX6_join_35 : decode cX6_join 35 = .ok (.getfield 19, 3) := by decide +kernel
theorem dX6_join_38 : decode cX6_join 38 = .ok (.invokevirtual 81, 3) := by decide +kernel
theorem dX6_join_41 : decode cX6_join 41 = .ok (.bipush 10, 2) := by decide +kernel
theorem dX6_join_43 : decode cX6_join 43 = .ok (.if_icmp .lt 13, 3) := by decide +kernel
theorem dX6_join_46 : decode cX6_join 46 = .ok (.new 41, 3) := by decide +kernel
theorem dX6_join_49 : decode cX6_join 49 = .ok (.dup, 1) := by decide +kernel
theorem dX6_join_50 : decode cX6_join 50 = .ok (.ldc 82, 2) := by decide +kernel
theorem dX6_join_52 : decode cX6_join 52 = .ok (.invokespecial 45, 3) := by decide +kernel
theorem dX6_join_55 : decode cX6_join 55 = .ok (.athrow, 1) := by decide +kernel
theorem dX6_join_56 : decode cX6_join 56 = .ok (.aload_n 0, 1) := by decide +kernel
theorem dX6_join_57 : decode cX6_join 57 = .ok (.getfield 19, 3) := by decide +kernel
theorem dX6_join_60 : decode cX6_join 60 = .ok (.iload_n 3, 1) := by decide +kernel
theorem dX6_join_61 : decode cX6_join 61 = .ok (.invokevirtual 84, 3) := by decide +kernel
theorem dX6_join_64 : decode cX6_join 64 = .ok (.ireturn, 1) := by decide +kernel
set_option maxRecDepth 20000 in
theorem ggX6_permit_X6_needSource : GoodIn wsX6_permit wsX6_needSource := goodIn_ca (goodIn_r _ [11, 12, 13, 6, 14, 15, 16, 17, 18, 19, 100, 101, 102, 103, 104, 105, 106, 107, 108] (by decide +kernel) (by decide +kernel)) (goodIn_sub (fun _ h => List.mem_cons_of_mem _ (List.mem_append_right _ h)) (by decide +kernel))
set_option maxRecDepth 20000 in
theorem gX6_permit_X6_needSource : GoodIn wsX6_permit (wsV RX6 51 RX6 yX6_needSource wsX6_needSource) := goodIn_app (goodIn_of _ (by decide +kernel)) ggX6_permit_X6_needSource
set_option maxRecDepth 20000 in
theorem ggX6_permit_X2_count : GoodIn wsX6_permit wsX2_count := goodIn_r _ [24, 25, 109, 110, 111, 112, 113, 114, 115, 116] (by decide +kernel) (by decide +kernel)
set_option maxRecDepth 20000 in
theorem gX6_permit_X2_count : GoodIn wsX6_permit (wsV RX6 91 RX2 yX2_count wsX2_count) := goodIn_app (goodIn_of _ (by decide +kernel)) ggX6_permit_X2_count
set_option maxRecDepth 20000 in
theorem ggX6_permit_X2_add : GoodIn wsX6_permit wsX2_add := goodIn_r _ [29, 30, 25, 31, 32, 33, 34, 35, 36, 37, 38, 39, 40, 109, 110, 111, 112, 113, 114, 115, 116] (by decide +kernel) (by decide +kernel)
set_option maxRecDepth 20000 in
theorem gX6_permit_X2_add : GoodIn wsX6_permit (wsV RX6 94 RX2 yX2_add wsX2_add) := goodIn_app (goodIn_of _ (by decide +kernel)) ggX6_permit_X2_add
set_option maxRecDepth 20000 in
theorem ggX6_permit_X2_findRepair : GoodIn wsX6_permit wsX2_findRepair := goodIn_r _ [44, 45, 46, 47, 48, 23, 49, 25, 50, 51, 52, 53, 40, 39, 54, 55, 10, 56, 57, 58, 59, 60, 61, 62, 63, 64, 65, 66, 67, 68, 69, 70, 71, 72, 30, 35, 73, 74, 75, 76, 77, 78, 79, 80, 81, 82, 83, 84, 85, 17, 86, 19, 87, 88, 89, 90, 91, 92, 93, 94, 95, 96, 97, 98, 99, 109, 110, 111, 112, 113, 114, 115, 116, 117, 105, 106, 107, 108] (by decide +kernel) (by decide +kernel)
set_option maxRecDepth 20000 in
theorem gX6_permit_X2_findRepair : GoodIn wsX6_permit (wsV RX6 97 RX2 yX2_findRepair wsX2_findRepair) := goodIn_app (goodIn_of _ (by decide +kernel)) ggX6_permit_X2_findRepair
theorem dX6_permit_0 : decode cX6_permit 0 = .ok (.aload_n 0, 1) := by decide +kernel
theorem dX6_permit_1 : decode cX6_permit 1 = .ok (.iload_n 1, 1) := by decide +kernel
theorem dX6_permit_2 : decode cX6_permit 2 = .ok (.invokevirtual 51, 3) := by decide +kernel
theorem dX6_permit_5 : decode cX6_permit 5 = .ok (.aload_n 0, 1) := by decide +kernel
theorem dX6_permit_6 : decode cX6_permit 6 = .ok (.iload_n 2, 1) := by decide +kernel
theorem dX6_permit_7 : decode cX6_permit 7 = .ok (.invokevirtual 51, 3) := by decide +kernel
theorem dX6_permit_10 : decode cX6_permit 10 = .ok (.iload_n 1, 1) := by decide +kernel
theorem dX6_permit_11 : decode cX6_permit 11 = .ok (.iload_n 2, 1) := by decide +kernel
theorem dX6_permit_12 : decode cX6_permit 12 = .ok (.if_icmp .ne 13, 3) := by decide +kernel
theorem dX6_permit_15 : decode cX6_permit 15 = .ok (.new 55, 3) := by decide +kernel
theorem dX6_permit_18 : decode cX6_permit 18 = .ok (.dup, 1) := by decide +kernel
theorem dX6_permit_19 : decode cX6_permit 19 = .ok (.ldc 87, 2) := by decide +kernel
theorem dX6_permit_21 : decode cX6_permit 21 = .ok (.invokespecial 59, 3) := by decide +kernel
theorem dX6_permit_24 : decode cX6_permit 24 = .ok (.athrow, 1) := by decide +kernel
theorem dX6_permit_25 : decode cX6_permit 25 = .ok (.iload_n 3, 1) := by decide +kernel
theorem dX6_permit_26 : decode cX6_permit 26 = .ok (.ifCond .lt 10, 3) := by decide +kernel
theorem dX6_permit_29 : decode cX6_permit 29 = .ok (.iload_n 3, 1) := by decide +kernel
theorem dX6_permit_30 : decode cX6_permit 30 = .ok (.sipush 999, 3) := by decide +kernel
theorem dX6_permit_33 : decode cX6_permit 33 = .ok (.if_icmp .le 13, 3) := by decide +kernel
theorem dX6_permit_36 : decode cX6_permit 36 = .ok (.new 55, 3) := by decide +kernel
theorem dX6_permit_39 : decode cX6_permit 39 = .ok (.dup, 1) := by decide +kernel
theorem dX6_permit_40 : decode cX6_permit 40 = .ok (.ldc 89, 2) := by decide +kernel
theorem dX6_permit_42 : decode cX6_permit 42 = .ok (.invokespecial 59, 3) := by decide +kernel
theorem dX6_permit_45 : decode cX6_permit 45 = .ok (.athrow, 1) := by decide +kernel
theorem dX6_permit_46 : decode cX6_permit 46 = .ok (.aload_n 0, 1) := by decide +kernel
theorem dX6_permit_47 : decode cX6_permit 47 = .ok (.getfield 26, 3) := by decide +kernel
theorem dX6_permit_50 : decode cX6_permit 50 = .ok (.invokevirtual 91, 3) := by decide +kernel
theorem dX6_permit_53 : decode cX6_permit 53 = .ok (.bipush 8, 2) := by decide +kernel
theorem dX6_permit_55 : decode cX6_permit 55 = .ok (.if_icmp .lt 13, 3) := by decide +kernel
theorem dX6_permit_58 : decode cX6_permit 58 = .ok (.new 41, 3) := by decide +kernel
theorem dX6_permit_61 : decode cX6_permit 61 = .ok (.dup, 1) := by decide +kernel
theorem dX6_permit_62 : decode cX6_permit 62 = .ok (.ldc 92, 2) := by decide +kernel
theorem dX6_permit_64 : decode cX6_permit 64 = .ok (.invokespecial 45, 3) := by decide +kernel
theorem dX6_permit_67 : decode cX6_permit 67 = .ok (.athrow, 1) := by decide +kernel
theorem dX6_permit_68 : decode cX6_permit 68 = .ok (.aload_n 0, 1) := by decide +kernel
theorem dX6_permit_69 : decode cX6_permit 69 = .ok (.getfield 26, 3) := by decide +kernel
theorem dX6_permit_72 : decode cX6_permit 72 = .ok (.iload_n 1, 1) := by decide +kernel
theorem dX6_permit_73 : decode cX6_permit 73 = .ok (.iload_n 2, 1) := by decide +kernel
theorem dX6_permit_74 : decode cX6_permit 74 = .ok (.iload_n 3, 1) := by decide +kernel
theorem dX6_permit_75 : decode cX6_permit 75 = .ok (.invokevirtual 94, 3) := by decide +kernel
theorem dX6_permit_78 : decode cX6_permit 78 = .ok (.istore 4, 2) := by decide +kernel
theorem dX6_permit_80 : decode cX6_permit 80 = .ok (.aload_n 0, 1) := by decide +kernel
theorem dX6_permit_81 : decode cX6_permit 81 = .ok (.getfield 26, 3) := by decide +kernel
theorem dX6_permit_84 : decode cX6_permit 84 = .ok (.aload_n 0, 1) := by decide +kernel
theorem dX6_permit_85 : decode cX6_permit 85 = .ok (.getfield 10, 3) := by decide +kernel
theorem dX6_permit_88 : decode cX6_permit 88 = .ok (.invokevirtual 97, 3) := by decide +kernel
theorem dX6_permit_91 : decode cX6_permit 91 = .ok (.iload 4, 2) := by decide +kernel
theorem dX6_permit_93 : decode cX6_permit 93 = .ok (.ireturn, 1) := by decide +kernel
set_option maxRecDepth 20000 in
theorem ggX6_person_X4_people : GoodIn wsX6_person wsX4_people := goodIn_r _ [10, 11, 22, 23, 24, 25, 26, 27, 28, 29, 30] (by decide +kernel) (by decide +kernel)
set_option maxRecDepth 20000 in
theorem gX6_person_X4_people : GoodIn wsX6_person (wsV RX6 120 RX4 yX4_people wsX4_people) := goodIn_app (goodIn_of _ (by decide +kernel)) ggX6_person_X4_people
set_option maxRecDepth 20000 in
theorem ggX6_person_X4_addPerson : GoodIn wsX6_person wsX4_addPerson := goodIn_r _ [15, 16, 11, 22, 23, 24, 25, 26, 27, 28, 29, 30] (by decide +kernel) (by decide +kernel)
set_option maxRecDepth 20000 in
theorem gX6_person_X4_addPerson : GoodIn wsX6_person (wsV RX6 125 RX4 yX4_addPerson wsX4_addPerson) := goodIn_app (goodIn_of _ (by decide +kernel)) ggX6_person_X4_addPerson
theorem dX6_person_0 : decode cX6_person 0 = .ok (.iload_n 1, 1) := by decide +kernel
theorem dX6_person_1 : decode cX6_person 1 = .ok (.ifCond .lt 10, 3) := by decide +kernel
theorem dX6_person_4 : decode cX6_person 4 = .ok (.iload_n 1, 1) := by decide +kernel
theorem dX6_person_5 : decode cX6_person 5 = .ok (.sipush 999, 3) := by decide +kernel
theorem dX6_person_8 : decode cX6_person 8 = .ok (.if_icmp .le 13, 3) := by decide +kernel
theorem dX6_person_11 : decode cX6_person 11 = .ok (.new 55, 3) := by decide +kernel
theorem dX6_person_14 : decode cX6_person 14 = .ok (.dup, 1) := by decide +kernel
theorem dX6_person_15 : decode cX6_person 15 = .ok (.ldc 118, 2) := by decide +kernel
theorem dX6_person_17 : decode cX6_person 17 = .ok (.invokespecial 59, 3) := by decide +kernel
theorem dX6_person_20 : decode cX6_person 20 = .ok (.athrow, 1) := by decide +kernel
theorem dX6_person_21 : decode cX6_person 21 = .ok (.aload_n 0, 1) := by decide +kernel
theorem dX6_person_22 : decode cX6_person 22 = .ok (.getfield 33, 3) := by decide +kernel
theorem dX6_person_25 : decode cX6_person 25 = .ok (.invokevirtual 120, 3) := by decide +kernel
theorem dX6_person_28 : decode cX6_person 28 = .ok (.bipush 8, 2) := by decide +kernel
theorem dX6_person_30 : decode cX6_person 30 = .ok (.if_icmp .lt 13, 3) := by decide +kernel
theorem dX6_person_33 : decode cX6_person 33 = .ok (.new 41, 3) := by decide +kernel
theorem dX6_person_36 : decode cX6_person 36 = .ok (.dup, 1) := by decide +kernel
theorem dX6_person_37 : decode cX6_person 37 = .ok (.ldc 123, 2) := by decide +kernel
theorem dX6_person_39 : decode cX6_person 39 = .ok (.invokespecial 45, 3) := by decide +kernel
theorem dX6_person_42 : decode cX6_person 42 = .ok (.athrow, 1) := by decide +kernel
theorem dX6_person_43 : decode cX6_person 43 = .ok (.aload_n 0, 1) := by decide +kernel
theorem dX6_person_44 : decode cX6_person 44 = .ok (.getfield 33, 3) := by decide +kernel
theorem dX6_person_47 : decode cX6_person 47 = .ok (.iload_n 1, 1) := by decide +kernel
theorem dX6_person_48 : decode cX6_person 48 = .ok (.invokevirtual 125, 3) := by decide +kernel
theorem dX6_person_51 : decode cX6_person 51 = .ok (.ireturn, 1) := by decide +kernel
set_option maxRecDepth 20000 in
theorem ggX6_asker_X4_askers : GoodIn wsX6_asker wsX4_askers := goodIn_r _ [8, 9, 19, 20, 21, 22, 23, 24, 25, 26, 27] (by decide +kernel) (by decide +kernel)
set_option maxRecDepth 20000 in
theorem gX6_asker_X4_askers : GoodIn wsX6_asker (wsV RX6 128 RX4 yX4_askers wsX4_askers) := goodIn_app (goodIn_of _ (by decide +kernel)) ggX6_asker_X4_askers
set_option maxRecDepth 20000 in
theorem ggX6_asker_X4_addAsker : GoodIn wsX6_asker wsX4_addAsker := goodIn_r _ [13, 9, 19, 20, 21, 22, 23, 24, 25, 26, 27] (by decide +kernel) (by decide +kernel)
set_option maxRecDepth 20000 in
theorem gX6_asker_X4_addAsker : GoodIn wsX6_asker (wsV RX6 133 RX4 yX4_addAsker wsX4_addAsker) := goodIn_app (goodIn_of _ (by decide +kernel)) ggX6_asker_X4_addAsker
theorem dX6_asker_0 : decode cX6_asker 0 = .ok (.aload_n 0, 1) := by decide +kernel
theorem dX6_asker_1 : decode cX6_asker 1 = .ok (.getfield 33, 3) := by decide +kernel
theorem dX6_asker_4 : decode cX6_asker 4 = .ok (.invokevirtual 128, 3) := by decide +kernel
theorem dX6_asker_7 : decode cX6_asker 7 = .ok (.iconst 4, 1) := by decide +kernel
theorem dX6_asker_8 : decode cX6_asker 8 = .ok (.if_icmp .lt 13, 3) := by decide +kernel
theorem dX6_asker_11 : decode cX6_asker 11 = .ok (.new 41, 3) := by decide +kernel
theorem dX6_asker_14 : decode cX6_asker 14 = .ok (.dup, 1) := by decide +kernel
theorem dX6_asker_15 : decode cX6_asker 15 = .ok (.ldc 131, 2) := by decide +kernel
theorem dX6_asker_17 : decode cX6_asker 17 = .ok (.invokespecial 45, 3) := by decide +kernel
theorem dX6_asker_20 : decode cX6_asker 20 = .ok (.athrow, 1) := by decide +kernel
theorem dX6_asker_21 : decode cX6_asker 21 = .ok (.aload_n 0, 1) := by decide +kernel
theorem dX6_asker_22 : decode cX6_asker 22 = .ok (.getfield 33, 3) := by decide +kernel
theorem dX6_asker_25 : decode cX6_asker 25 = .ok (.invokevirtual 133, 3) := by decide +kernel
theorem dX6_asker_28 : decode cX6_asker 28 = .ok (.ireturn, 1) := by decide +kernel
set_option maxRecDepth 20000 in
theorem ggX6_ask_X6_needAsker : GoodIn wsX6_ask wsX6_needAsker := goodIn_ca (goodIn_r _ [6, 7, 8, 1, 9, 10, 11, 12, 13, 14, 107, 108, 109, 110, 111, 112, 113, 114, 115, 116, 117, 118, 119, 120] (by decide +kernel) (by decide +kernel)) (goodIn_sub (fun _ h => List.mem_cons_of_mem _ (List.mem_append_left _ (List.mem_append_right _ h))) (by decide +kernel))
set_option maxRecDepth 20000 in
theorem gX6_ask_X6_needAsker : GoodIn wsX6_ask (wsV RX6 141 RX6 yX6_needAsker wsX6_needAsker) := goodIn_app (goodIn_of _ (by decide +kernel)) ggX6_ask_X6_needAsker
set_option maxRecDepth 20000 in
theorem ggX6_ask_X6_needSomePeople : GoodIn wsX6_ask wsX6_needSomePeople := goodIn_ca (goodIn_r _ [18, 19, 20, 21, 22, 23, 5, 24, 1, 25, 26, 27, 12, 28, 29, 30, 31, 32, 33, 107, 108, 109, 110, 111, 112, 113, 114, 115, 116, 117, 118, 119, 120] (by decide +kernel) (by decide +kernel)) (goodIn_sub (fun _ h => List.mem_cons_of_mem _ (List.mem_append_right _ h)) (by decide +kernel))
set_option maxRecDepth 20000 in
theorem gX6_ask_X6_needSomePeople : GoodIn wsX6_ask (wsV RX6 144 RX6 yX6_needSomePeople wsX6_needSomePeople) := goodIn_app (goodIn_of _ (by decide +kernel)) ggX6_ask_X6_needSomePeople
set_option maxRecDepth 20000 in
theorem ggX6_ask_X4_tell : GoodIn wsX6_ask wsX4_tell := goodIn_r _ [37, 38, 39, 40, 41, 42, 43, 44, 45, 46, 47, 48, 49, 50, 51, 12, 52, 53, 54, 55, 56, 57, 58, 59, 60, 61, 62, 63, 64, 65, 66, 67, 68, 69, 5, 70, 71, 72, 73, 74, 75, 76, 77, 78, 79, 80, 81, 82, 83, 84, 85, 86, 87, 88, 89, 90, 91, 92, 93, 94, 95, 96, 97, 98, 99, 100, 101, 102, 103, 104, 105, 33, 106, 112, 113, 114, 115, 116, 117, 118, 119, 120, 121, 122, 123, 124] (by decide +kernel) (by decide +kernel)
set_option maxRecDepth 20000 in
theorem gX6_ask_X4_tell : GoodIn wsX6_ask (wsV RX6 147 RX4 yX4_tell wsX4_tell) := goodIn_app (goodIn_of _ (by decide +kernel)) ggX6_ask_X4_tell
theorem dX6_ask_0 : decode cX6_ask 0 = .ok (.aload_n 0, 1) := by decide +kernel
theorem dX6_ask_1 : decode cX6_ask 1 = .ok (.iload_n 1, 1) := by decide +kernel
theorem dX6_ask_2 : decode cX6_ask 2 = .ok (.invokevirtual 141, 3) := by decide +kernel
theorem dX6_ask_5 : decode cX6_ask 5 = .ok (.aload_n 0, 1) := by decide +kernel
theorem dX6_ask_6 : decode cX6_ask 6 = .ok (.iload_n 2, 1) := by decide +kernel
theorem dX6_ask_7 : decode cX6_ask 7 = .ok (.invokevirtual 144, 3) := by decide +kernel
theorem dX6_ask_10 : decode cX6_ask 10 = .ok (.aload_n 0, 1) := by decide +kernel
theorem dX6_ask_11 : decode cX6_ask 11 = .ok (.getfield 33, 3) := by decide +kernel
theorem dX6_ask_14 : decode cX6_ask 14 = .ok (.iload_n 1, 1) := by decide +kernel
theorem dX6_ask_15 : decode cX6_ask 15 = .ok (.iload_n 2, 1) := by decide +kernel
theorem dX6_ask_16 : decode cX6_ask 16 = .ok (.invokevirtual 147, 3) := by decide +kernel
theorem dX6_ask_19 : decode cX6_ask 19 = .ok (.ireturn, 1) := by decide +kernel
set_option maxRecDepth 20000 in
theorem ggX6_talk_X6_needAsker : GoodIn wsX6_talk wsX6_needAsker := goodIn_ca (goodIn_r _ [8, 9, 10, 3, 11, 12, 13, 14, 15, 16, 80, 81, 82, 83, 84, 85, 86, 87, 88, 89, 90, 91, 92, 93] (by decide +kernel) (by decide +kernel)) (goodIn_sub (fun _ h => List.mem_cons_of_mem _ (List.mem_append_right _ h)) (by decide +kernel))
set_option maxRecDepth 20000 in
theorem gX6_talk_X6_needAsker : GoodIn wsX6_talk (wsV RX6 141 RX6 yX6_needAsker wsX6_needAsker) := goodIn_app (goodIn_of _ (by decide +kernel)) ggX6_talk_X6_needAsker
set_option maxRecDepth 20000 in
theorem ggX6_talk_X4_letTalk : GoodIn wsX6_talk wsX4_letTalk := goodIn_r _ [20, 21, 22, 23, 24, 25, 14, 26, 27, 28, 29, 30, 31, 32, 33, 34, 35, 36, 37, 38, 39, 40, 41, 42, 7, 43, 44, 45, 46, 47, 48, 49, 50, 51, 52, 53, 54, 55, 56, 57, 58, 59, 60, 61, 62, 63, 64, 65, 66, 67, 68, 69, 70, 71, 72, 73, 74, 75, 76, 77, 78, 79, 85, 86, 87, 88, 89, 90, 91, 92, 93, 94, 95, 96, 97] (by decide +kernel) (by decide +kernel)
set_option maxRecDepth 20000 in
theorem gX6_talk_X4_letTalk : GoodIn wsX6_talk (wsV RX6 153 RX4 yX4_letTalk wsX4_letTalk) := goodIn_app (goodIn_of _ (by decide +kernel)) ggX6_talk_X4_letTalk
theorem dX6_talk_0 : decode cX6_talk 0 = .ok (.aload_n 0, 1) := by decide +kernel
theorem dX6_talk_1 : decode cX6_talk 1 = .ok (.iload_n 1, 1) := by decide +kernel
theorem dX6_talk_2 : decode cX6_talk 2 = .ok (.invokevirtual 141, 3) := by decide +kernel
theorem dX6_talk_5 : decode cX6_talk 5 = .ok (.aload_n 0, 1) := by decide +kernel
theorem dX6_talk_6 : decode cX6_talk 6 = .ok (.iload_n 2, 1) := by decide +kernel
theorem dX6_talk_7 : decode cX6_talk 7 = .ok (.invokevirtual 141, 3) := by decide +kernel
theorem dX6_talk_10 : decode cX6_talk 10 = .ok (.iload_n 1, 1) := by decide +kernel
theorem dX6_talk_11 : decode cX6_talk 11 = .ok (.iload_n 2, 1) := by decide +kernel
theorem dX6_talk_12 : decode cX6_talk 12 = .ok (.if_icmp .ne 13, 3) := by decide +kernel
theorem dX6_talk_15 : decode cX6_talk 15 = .ok (.new 55, 3) := by decide +kernel
theorem dX6_talk_18 : decode cX6_talk 18 = .ok (.dup, 1) := by decide +kernel
theorem dX6_talk_19 : decode cX6_talk 19 = .ok (.ldc 151, 2) := by decide +kernel
theorem dX6_talk_21 : decode cX6_talk 21 = .ok (.invokespecial 59, 3) := by decide +kernel
theorem dX6_talk_24 : decode cX6_talk 24 = .ok (.athrow, 1) := by decide +kernel
theorem dX6_talk_25 : decode cX6_talk 25 = .ok (.aload_n 0, 1) := by decide +kernel
theorem dX6_talk_26 : decode cX6_talk 26 = .ok (.getfield 33, 3) := by decide +kernel
theorem dX6_talk_29 : decode cX6_talk 29 = .ok (.iload_n 1, 1) := by decide +kernel
theorem dX6_talk_30 : decode cX6_talk 30 = .ok (.iload_n 2, 1) := by decide +kernel
theorem dX6_talk_31 : decode cX6_talk 31 = .ok (.invokevirtual 153, 3) := by decide +kernel
theorem dX6_talk_34 : decode cX6_talk 34 = .ok (.ireturn, 1) := by decide +kernel
set_option maxRecDepth 20000 in
theorem ggX6_ofSource_X6_needSource : GoodIn wsX6_ofSource wsX6_needSource := goodIn_ca (goodIn_r _ [10, 11, 12, 3, 13, 14, 15, 16, 17, 18, 85, 86, 87, 88, 89, 90, 91, 92, 93] (by decide +kernel) (by decide +kernel)) (goodIn_sub (fun _ h => List.mem_cons_of_mem _ (List.mem_append_right _ h)) (by decide +kernel))
set_option maxRecDepth 20000 in
theorem gX6_ofSource_X6_needSource : GoodIn wsX6_ofSource (wsV RX6 51 RX6 yX6_needSource wsX6_needSource) := goodIn_app (goodIn_of _ (by decide +kernel)) ggX6_ofSource_X6_needSource
set_option maxRecDepth 20000 in
theorem ggX6_ofSource_X0_kinOf : GoodIn wsX6_ofSource wsX0_kinOf := goodIn_r _ [22, 23, 24, 25, 26, 27, 28, 29, 90, 91, 92, 93, 94] (by decide +kernel) (by decide +kernel)
set_option maxRecDepth 20000 in
theorem gX6_ofSource_X0_kinOf : GoodIn wsX6_ofSource (wsV RX6 160 RX0 yX0_kinOf wsX0_kinOf) := goodIn_app (goodIn_of _ (by decide +kernel)) ggX6_ofSource_X0_kinOf
set_option maxRecDepth 20000 in
theorem ggX6_ofSource_X0_within : GoodIn wsX6_ofSource wsX0_within := goodIn_r _ [33, 34, 90, 91, 92, 93] (by decide +kernel) (by decide +kernel)
set_option maxRecDepth 20000 in
theorem gX6_ofSource_X0_within : GoodIn wsX6_ofSource (wsV RX6 163 RX0 yX0_within wsX0_within) := goodIn_app (goodIn_of _ (by decide +kernel)) ggX6_ofSource_X0_within
set_option maxRecDepth 20000 in
theorem ggX6_ofSource_X2_chained : GoodIn wsX6_ofSource wsX2_chained := goodIn_r _ [39, 40, 41, 42, 43, 38, 44, 45, 46, 47, 48, 49, 50, 51, 52, 53, 9, 54, 55, 56, 57, 58, 59, 60, 61, 62, 63, 27, 64, 29, 65, 66, 67, 68, 69, 70, 71, 72, 73, 74, 75, 76, 95, 96, 97, 98, 99, 100, 101, 102, 94] (by decide +kernel) (by decide +kernel)
set_option maxRecDepth 20000 in
theorem gX6_ofSource_X2_chained : GoodIn wsX6_ofSource (wsV RX6 166 RX2 yX2_chained wsX2_chained) := goodIn_app (goodIn_of _ (by decide +kernel)) ggX6_ofSource_X2_chained
set_option maxRecDepth 20000 in
theorem ggX6_ofSource_X5_countWith : GoodIn wsX6_ofSource wsX5_countWith := goodIn_r _ [81, 82, 83, 84, 53, 9, 54, 103, 104, 105] (by decide +kernel) (by decide +kernel)
set_option maxRecDepth 20000 in
theorem gX6_ofSource_X5_countWith : GoodIn wsX6_ofSource (wsV RX6 169 RX5 yX5_countWith wsX5_countWith) := goodIn_app (goodIn_of _ (by decide +kernel)) ggX6_ofSource_X5_countWith
theorem dX6_ofSource_0 : decode cX6_ofSource 0 = .ok (.aload_n 0, 1) := by decide +kernel
theorem dX6_ofSource_1 : decode cX6_ofSource 1 = .ok (.iload_n 1, 1) := by decide +kernel
theorem dX6_ofSource_2 : decode cX6_ofSource 2 = .ok (.invokevirtual 51, 3) := by decide +kernel
theorem dX6_ofSource_5 : decode cX6_ofSource 5 = .ok (.iload_n 2, 1) := by decide +kernel
theorem dX6_ofSource_6 : decode cX6_ofSource 6 = .ok (.tableswitch 66 0 3 #[30, 39, 48, 57], 30) := by decide +kernel
theorem dX6_ofSource_36 : decode cX6_ofSource 36 = .ok (.aload_n 0, 1) := by decide +kernel
theorem dX6_ofSource_37 : decode cX6_ofSource 37 = .ok (.getfield 10, 3) := by decide +kernel
theorem dX6_ofSource_40 : decode cX6_ofSource 40 = .ok (.iload_n 1, 1) := by decide +kernel
theorem dX6_ofSource_41 : decode cX6_ofSource 41 = .ok (.invokevirtual 160, 3) := by decide +kernel
theorem dX6_ofSource_44 : decode cX6_ofSource 44 = .ok (.ireturn, 1) := by decide +kernel
theorem dX6_ofSource_45 : decode cX6_ofSource 45 = .ok (.aload_n 0, 1) := by decide +kernel
theorem dX6_ofSource_46 : decode cX6_ofSource 46 = .ok (.getfield 10, 3) := by decide +kernel
theorem dX6_ofSource_49 : decode cX6_ofSource 49 = .ok (.iload_n 1, 1) := by decide +kernel
theorem dX6_ofSource_50 : decode cX6_ofSource 50 = .ok (.invokevirtual 163, 3) := by decide +kernel
theorem dX6_ofSource_53 : decode cX6_ofSource 53 = .ok (.ireturn, 1) := by decide +kernel
theorem dX6_ofSource_54 : decode cX6_ofSource 54 = .ok (.aload_n 0, 1) := by decide +kernel
theorem dX6_ofSource_55 : decode cX6_ofSource 55 = .ok (.getfield 26, 3) := by decide +kernel
theorem dX6_ofSource_58 : decode cX6_ofSource 58 = .ok (.iload_n 1, 1) := by decide +kernel
theorem dX6_ofSource_59 : decode cX6_ofSource 59 = .ok (.invokevirtual 166, 3) := by decide +kernel
theorem dX6_ofSource_62 : decode cX6_ofSource 62 = .ok (.ireturn, 1) := by decide +kernel
theorem dX6_ofSource_63 : decode cX6_ofSource 63 = .ok (.aload_n 0, 1) := by decide +kernel
theorem dX6_ofSource_64 : decode cX6_ofSource 64 = .ok (.getfield 19, 3) := by decide +kernel
theorem dX6_ofSource_67 : decode cX6_ofSource 67 = .ok (.iload_n 1, 1) := by decide +kernel
theorem dX6_ofSource_68 : decode cX6_ofSource 68 = .ok (.invokevirtual 169, 3) := by decide +kernel
theorem dX6_ofSource_71 : decode cX6_ofSource 71 = .ok (.ireturn, 1) := by decide +kernel
theorem dX6_ofSource_72 : decode cX6_ofSource 72 = .ok (.new 55, 3) := by decide +kernel
theorem dX6_ofSource_75 : decode cX6_ofSource 75 = .ok (.dup, 1) := by decide +kernel
theorem dX6_ofSource_76 : decode cX6_ofSource 76 = .ok (.ldc 172, 2) := by decide +kernel
theorem dX6_ofSource_78 : decode cX6_ofSource 78 = .ok (.invokespecial 59, 3) := by decide +kernel
theorem dX6_ofSource_81 : decode cX6_ofSource 81 = .ok (.athrow, 1) := by decide +kernel
set_option maxRecDepth 20000 in
theorem ggX6_ofTable_X5_knows : GoodIn wsX6_ofTable wsX5_knows := goodIn_r _ [10, 11, 30, 31, 32] (by decide +kernel) (by decide +kernel)
set_option maxRecDepth 20000 in
theorem gX6_ofTable_X5_knows : GoodIn wsX6_ofTable (wsV RX6 174 RX5 yX5_knows wsX5_knows) := goodIn_app (goodIn_of _ (by decide +kernel)) ggX6_ofTable_X5_knows
set_option maxRecDepth 20000 in
theorem ggX6_ofTable_X5_line : GoodIn wsX6_ofTable wsX5_line := goodIn_r _ [15, 16, 30, 31, 32] (by decide +kernel) (by decide +kernel)
set_option maxRecDepth 20000 in
theorem gX6_ofTable_X5_line : GoodIn wsX6_ofTable (wsV RX6 182 RX5 yX5_line wsX5_line) := goodIn_app (goodIn_of _ (by decide +kernel)) ggX6_ofTable_X5_line
set_option maxRecDepth 20000 in
theorem ggX6_ofTable_X5_isStruck : GoodIn wsX6_ofTable wsX5_isStruck := goodIn_r _ [20, 21, 22, 23, 24, 30, 31, 32] (by decide +kernel) (by decide +kernel)
set_option maxRecDepth 20000 in
theorem gX6_ofTable_X5_isStruck : GoodIn wsX6_ofTable (wsV RX6 185 RX5 yX5_isStruck wsX5_isStruck) := goodIn_app (goodIn_of _ (by decide +kernel)) ggX6_ofTable_X5_isStruck
theorem dX6_ofTable_0 : decode cX6_ofTable 0 = .ok (.aload_n 0, 1) := by decide +kernel
theorem dX6_ofTable_1 : decode cX6_ofTable 1 = .ok (.getfield 19, 3) := by decide +kernel
theorem dX6_ofTable_4 : decode cX6_ofTable 4 = .ok (.iload_n 1, 1) := by decide +kernel
theorem dX6_ofTable_5 : decode cX6_ofTable 5 = .ok (.invokevirtual 174, 3) := by decide +kernel
theorem dX6_ofTable_8 : decode cX6_ofTable 8 = .ok (.ifCond .ne 13, 3) := by decide +kernel
theorem dX6_ofTable_11 : decode cX6_ofTable 11 = .ok (.new 177, 3) := by decide +kernel
theorem dX6_ofTable_14 : decode cX6_ofTable 14 = .ok (.dup, 1) := by decide +kernel
theorem dX6_ofTable_15 : decode cX6_ofTable 15 = .ok (.ldc 179, 2) := by decide +kernel
theorem dX6_ofTable_17 : decode cX6_ofTable 17 = .ok (.invokespecial 181, 3) := by decide +kernel
theorem dX6_ofTable_20 : decode cX6_ofTable 20 = .ok (.athrow, 1) := by decide +kernel
theorem dX6_ofTable_21 : decode cX6_ofTable 21 = .ok (.iload_n 2, 1) := by decide +kernel
theorem dX6_ofTable_22 : decode cX6_ofTable 22 = .ok (.lookupswitch 52 #[(0, 26), (1, 35)], 26) := by decide +kernel
theorem dX6_ofTable_48 : decode cX6_ofTable 48 = .ok (.aload_n 0, 1) := by decide +kernel
theorem dX6_ofTable_49 : decode cX6_ofTable 49 = .ok (.getfield 19, 3) := by decide +kernel
theorem dX6_ofTable_52 : decode cX6_ofTable 52 = .ok (.iload_n 1, 1) := by decide +kernel
theorem dX6_ofTable_53 : decode cX6_ofTable 53 = .ok (.invokevirtual 182, 3) := by decide +kernel
theorem dX6_ofTable_56 : decode cX6_ofTable 56 = .ok (.ireturn, 1) := by decide +kernel
theorem dX6_ofTable_57 : decode cX6_ofTable 57 = .ok (.aload_n 0, 1) := by decide +kernel
theorem dX6_ofTable_58 : decode cX6_ofTable 58 = .ok (.getfield 19, 3) := by decide +kernel
theorem dX6_ofTable_61 : decode cX6_ofTable 61 = .ok (.iload_n 1, 1) := by decide +kernel
theorem dX6_ofTable_62 : decode cX6_ofTable 62 = .ok (.invokevirtual 185, 3) := by decide +kernel
theorem dX6_ofTable_65 : decode cX6_ofTable 65 = .ok (.ifCond .eq 7, 3) := by decide +kernel
theorem dX6_ofTable_68 : decode cX6_ofTable 68 = .ok (.iconst 1, 1) := by decide +kernel
theorem dX6_ofTable_69 : decode cX6_ofTable 69 = .ok (.goto 4, 3) := by decide +kernel
theorem dX6_ofTable_72 : decode cX6_ofTable 72 = .ok (.iconst 0, 1) := by decide +kernel
theorem dX6_ofTable_73 : decode cX6_ofTable 73 = .ok (.ireturn, 1) := by decide +kernel
theorem dX6_ofTable_74 : decode cX6_ofTable 74 = .ok (.new 55, 3) := by decide +kernel
theorem dX6_ofTable_77 : decode cX6_ofTable 77 = .ok (.dup, 1) := by decide +kernel
theorem dX6_ofTable_78 : decode cX6_ofTable 78 = .ok (.ldc 188, 2) := by decide +kernel
theorem dX6_ofTable_80 : decode cX6_ofTable 80 = .ok (.invokespecial 59, 3) := by decide +kernel
theorem dX6_ofTable_83 : decode cX6_ofTable 83 = .ok (.athrow, 1) := by decide +kernel
set_option maxRecDepth 20000 in
theorem ggX6_house_X0_count : GoodIn wsX6_house wsX0_count := goodIn_r _ [12, 13, 140, 141, 142, 143] (by decide +kernel) (by decide +kernel)
set_option maxRecDepth 20000 in
theorem gX6_house_X0_count : GoodIn wsX6_house (wsV RX6 37 RX0 yX0_count wsX0_count) := goodIn_app (goodIn_of _ (by decide +kernel)) ggX6_house_X0_count
set_option maxRecDepth 20000 in
theorem ggX6_house_X5_count : GoodIn wsX6_house wsX5_count := goodIn_r _ [18, 19, 144, 145, 146] (by decide +kernel) (by decide +kernel)
set_option maxRecDepth 20000 in
theorem gX6_house_X5_count : GoodIn wsX6_house (wsV RX6 81 RX5 yX5_count wsX5_count) := goodIn_app (goodIn_of _ (by decide +kernel)) ggX6_house_X5_count
set_option maxRecDepth 20000 in
theorem ggX6_house_X5_countStruck : GoodIn wsX6_house wsX5_countStruck := goodIn_r _ [23, 24, 25, 26, 27, 28, 29, 30, 31, 144, 145, 146] (by decide +kernel) (by decide +kernel)
set_option maxRecDepth 20000 in
theorem gX6_house_X5_countStruck : GoodIn wsX6_house (wsV RX6 228 RX5 yX5_countStruck wsX5_countStruck) := goodIn_app (goodIn_of _ (by decide +kernel)) ggX6_house_X5_countStruck
set_option maxRecDepth 20000 in
theorem ggX6_house_X0_barNow : GoodIn wsX6_house wsX0_barNow := goodIn_r _ [35, 36, 140, 141, 142, 143] (by decide +kernel) (by decide +kernel)
set_option maxRecDepth 20000 in
theorem gX6_house_X0_barNow : GoodIn wsX6_house (wsV RX6 231 RX0 yX0_barNow wsX0_barNow) := goodIn_app (goodIn_of _ (by decide +kernel)) ggX6_house_X0_barNow
set_option maxRecDepth 20000 in
theorem ggX6_house_X2_countInForce : GoodIn wsX6_house wsX2_countInForce := goodIn_r _ [41, 42, 43, 44, 40, 45, 46, 47, 48, 49, 50, 51, 52, 53, 54, 55, 56, 57, 26, 27, 28, 29, 30, 31, 147, 148, 149, 150, 151, 152, 153, 154] (by decide +kernel) (by decide +kernel)
set_option maxRecDepth 20000 in
theorem gX6_house_X2_countInForce : GoodIn wsX6_house (wsV RX6 234 RX2 yX2_countInForce wsX2_countInForce) := goodIn_app (goodIn_of _ (by decide +kernel)) ggX6_house_X2_countInForce
set_option maxRecDepth 20000 in
theorem ggX6_house_X2_countLeaks : GoodIn wsX6_house wsX2_countLeaks := goodIn_r _ [61, 42, 43, 44, 40, 45, 46, 47, 48, 49, 50, 51, 52, 53, 54, 55, 56, 62, 63, 64, 65, 66, 67, 68, 69, 70, 71, 72, 73, 74, 75, 76, 77, 78, 79, 80, 81, 82, 83, 9, 10, 11, 12, 13, 84, 85, 86, 87, 88, 89, 90, 91, 92, 93, 94, 95, 96, 57, 26, 27, 28, 29, 30, 31, 147, 148, 149, 150, 151, 152, 153, 154, 155, 140, 141, 142, 143] (by decide +kernel) (by decide +kernel)
set_option maxRecDepth 20000 in
theorem gX6_house_X2_countLeaks : GoodIn wsX6_house (wsV RX6 237 RX2 yX2_countLeaks wsX2_countLeaks) := goodIn_app (goodIn_of _ (by decide +kernel)) ggX6_house_X2_countLeaks
set_option maxRecDepth 20000 in
theorem ggX6_house_X2_repair : GoodIn wsX6_house wsX2_repair := goodIn_r _ [100, 101, 147, 148, 149, 150, 151, 152, 153, 154] (by decide +kernel) (by decide +kernel)
set_option maxRecDepth 20000 in
theorem gX6_house_X2_repair : GoodIn wsX6_house (wsV RX6 202 RX2 yX2_repair wsX2_repair) := goodIn_app (goodIn_of _ (by decide +kernel)) ggX6_house_X2_repair
set_option maxRecDepth 20000 in
theorem ggX6_house_X2_today : GoodIn wsX6_house wsX2_today := goodIn_r _ [105, 51, 147, 148, 149, 150, 151, 152, 153, 154] (by decide +kernel) (by decide +kernel)
set_option maxRecDepth 20000 in
theorem gX6_house_X2_today : GoodIn wsX6_house (wsV RX6 110 RX2 yX2_today wsX2_today) := goodIn_app (goodIn_of _ (by decide +kernel)) ggX6_house_X2_today
set_option maxRecDepth 20000 in
theorem ggX6_house_X4_people : GoodIn wsX6_house wsX4_people := goodIn_r _ [110, 111, 156, 157, 158, 159, 160, 161, 162, 163, 164] (by decide +kernel) (by decide +kernel)
set_option maxRecDepth 20000 in
theorem gX6_house_X4_people : GoodIn wsX6_house (wsV RX6 120 RX4 yX4_people wsX4_people) := goodIn_app (goodIn_of _ (by decide +kernel)) ggX6_house_X4_people
set_option maxRecDepth 20000 in
theorem ggX6_house_X4_askers : GoodIn wsX6_house wsX4_askers := goodIn_r _ [115, 116, 156, 157, 158, 159, 160, 161, 162, 163, 164] (by decide +kernel) (by decide +kernel)
set_option maxRecDepth 20000 in
theorem gX6_house_X4_askers : GoodIn wsX6_house (wsV RX6 128 RX4 yX4_askers wsX4_askers) := goodIn_app (goodIn_of _ (by decide +kernel)) ggX6_house_X4_askers
set_option maxRecDepth 20000 in
theorem ggX6_house_X4_leastNow : GoodIn wsX6_house wsX4_leastNow := goodIn_r _ [120, 121, 156, 157, 158, 159, 160, 161, 162, 163, 164] (by decide +kernel) (by decide +kernel)
set_option maxRecDepth 20000 in
theorem gX6_house_X4_leastNow : GoodIn wsX6_house (wsV RX6 241 RX4 yX4_leastNow wsX4_leastNow) := goodIn_app (goodIn_of _ (by decide +kernel)) ggX6_house_X4_leastNow
set_option maxRecDepth 20000 in
theorem ggX6_house_X4_toldEver : GoodIn wsX6_house wsX4_toldEver := goodIn_r _ [125, 126, 127, 128, 109, 129, 156, 157, 158, 159, 160, 161, 162, 163, 164] (by decide +kernel) (by decide +kernel)
set_option maxRecDepth 20000 in
theorem gX6_house_X4_toldEver : GoodIn wsX6_house (wsV RX6 244 RX4 yX4_toldEver wsX4_toldEver) := goodIn_app (goodIn_of _ (by decide +kernel)) ggX6_house_X4_toldEver
set_option maxRecDepth 20000 in
theorem ggX6_house_X4_refusedEver : GoodIn wsX6_house wsX4_refusedEver := goodIn_r _ [133, 134, 127, 128, 109, 129, 156, 157, 158, 159, 160, 161, 162, 163, 164] (by decide +kernel) (by decide +kernel)
set_option maxRecDepth 20000 in
theorem gX6_house_X4_refusedEver : GoodIn wsX6_house (wsV RX6 247 RX4 yX4_refusedEver wsX4_refusedEver) := goodIn_app (goodIn_of _ (by decide +kernel)) ggX6_house_X4_refusedEver
end
section
theorem dX6_house_0 : decode cX6_house 0 = .ok (.iload_n 1, 1) := by decide +kernel
theorem dX6_house_1 : decode cX6_house 1 = .ok (.tableswitch 192 0 13 #[71, 79, 95, 103, 111, 119, 131, 139, 147, 155, 163, 171, 179, 187], 71) := by decide +kernel
theorem dX6_house_72 : decode cX6_house 72 = .ok (.aload_n 0, 1) := by decide +kernel
theorem dX6_house_73 : decode cX6_house 73 = .ok (.getfield 10, 3) := by decide +kernel
theorem dX6_house_76 : decode cX6_house 76 = .ok (.invokevirtual 37, 3) := by decide +kernel
theorem dX6_house_79 : decode cX6_house 79 = .ok (.ireturn, 1) := by decide +kernel
theorem dX6_house_80 : decode cX6_house 80 = .ok (.aload_n 0, 1) := by decide +kernel
theorem dX6_house_81 : decode cX6_house 81 = .ok (.getfield 19, 3) := by decide +kernel
theorem dX6_house_84 : decode cX6_house 84 = .ok (.invokevirtual 81, 3) := by decide +kernel
theorem dX6_house_87 : decode cX6_house 87 = .ok (.aload_n 0, 1) := by decide +kernel
theorem dX6_house_88 : decode cX6_house 88 = .ok (.getfield 19, 3) := by decide +kernel
theorem dX6_house_91 : decode cX6_house 91 = .ok (.invokevirtual 228, 3) := by decide +kernel
theorem dX6_house_94 : decode cX6_house 94 = .ok (.isub, 1) := by decide +kernel
theorem dX6_house_95 : decode cX6_house 95 = .ok (.ireturn, 1) := by decide +kernel
theorem dX6_house_96 : decode cX6_house 96 = .ok (.aload_n 0, 1) := by decide +kernel
theorem dX6_house_97 : decode cX6_house 97 = .ok (.getfield 19, 3) := by decide +kernel
theorem dX6_house_100 : decode cX6_house 100 = .ok (.invokevirtual 228, 3) := by decide +kernel
theorem dX6_house_103 : decode cX6_house 103 = .ok (.ireturn, 1) := by decide +kernel
theorem dX6_house_104 : decode cX6_house 104 = .ok (.aload_n 0, 1) := by decide +kernel
theorem dX6_house_105 : decode cX6_house 105 = .ok (.getfield 10, 3) := by decide +kernel
theorem dX6_house_108 : decode cX6_house 108 = .ok (.invokevirtual 231, 3) := by decide +kernel
theorem dX6_house_111 : decode cX6_house 111 = .ok (.ireturn, 1) := by decide +kernel
theorem dX6_house_112 : decode cX6_house 112 = .ok (.aload_n 0, 1) := by decide +kernel
theorem dX6_house_113 : decode cX6_house 113 = .ok (.getfield 26, 3) := by decide +kernel
theorem dX6_house_116 : decode cX6_house 116 = .ok (.invokevirtual 234, 3) := by decide +kernel
theorem dX6_house_119 : decode cX6_house 119 = .ok (.ireturn, 1) := by decide +kernel
theorem dX6_house_120 : decode cX6_house 120 = .ok (.aload_n 0, 1) := by decide +kernel
theorem dX6_house_121 : decode cX6_house 121 = .ok (.getfield 26, 3) := by decide +kernel
theorem dX6_house_124 : decode cX6_house 124 = .ok (.aload_n 0, 1) := by decide +kernel
theorem dX6_house_125 : decode cX6_house 125 = .ok (.getfield 10, 3) := by decide +kernel
theorem dX6_house_128 : decode cX6_house 128 = .ok (.invokevirtual 237, 3) := by decide +kernel
theorem dX6_house_131 : decode cX6_house 131 = .ok (.ireturn, 1) := by decide +kernel
theorem dX6_house_132 : decode cX6_house 132 = .ok (.aload_n 0, 1) := by decide +kernel
theorem dX6_house_133 : decode cX6_house 133 = .ok (.getfield 26, 3) := by decide +kernel
theorem dX6_house_136 : decode cX6_house 136 = .ok (.invokevirtual 202, 3) := by decide +kernel
theorem dX6_house_139 : decode cX6_house 139 = .ok (.ireturn, 1) := by decide +kernel
theorem dX6_house_140 : decode cX6_house 140 = .ok (.aload_n 0, 1) := by decide +kernel
theorem dX6_house_141 : decode cX6_house 141 = .ok (.getfield 26, 3) := by decide +kernel
theorem dX6_house_144 : decode cX6_house 144 = .ok (.invokevirtual 110, 3) := by decide +kernel
theorem dX6_house_147 : decode cX6_house 147 = .ok (.ireturn, 1) := by decide +kernel
theorem dX6_house_148 : decode cX6_house 148 = .ok (.aload_n 0, 1) := by decide +kernel
theorem dX6_house_149 : decode cX6_house 149 = .ok (.getfield 33, 3) := by decide +kernel
theorem dX6_house_152 : decode cX6_house 152 = .ok (.invokevirtual 120, 3) := by decide +kernel
theorem dX6_house_155 : decode cX6_house 155 = .ok (.ireturn, 1) := by decide +kernel
theorem dX6_house_156 : decode cX6_house 156 = .ok (.aload_n 0, 1) := by decide +kernel
theorem dX6_house_157 : decode cX6_house 157 = .ok (.getfield 33, 3) := by decide +kernel
theorem dX6_house_160 : decode cX6_house 160 = .ok (.invokevirtual 128, 3) := by decide +kernel
theorem dX6_house_163 : decode cX6_house 163 = .ok (.ireturn, 1) := by decide +kernel
theorem dX6_house_164 : decode cX6_house 164 = .ok (.aload_n 0, 1) := by decide +kernel
theorem dX6_house_165 : decode cX6_house 165 = .ok (.getfield 33, 3) := by decide +kernel
theorem dX6_house_168 : decode cX6_house 168 = .ok (.invokevirtual 241, 3) := by decide +kernel
theorem dX6_house_171 : decode cX6_house 171 = .ok (.ireturn, 1) := by decide +kernel
theorem dX6_house_172 : decode cX6_house 172 = .ok (.aload_n 0, 1) := by decide +kernel
theorem dX6_house_173 : decode cX6_house 173 = .ok (.getfield 33, 3) := by decide +kernel
theorem dX6_house_176 : decode cX6_house 176 = .ok (.invokevirtual 244, 3) := by decide +kernel
theorem dX6_house_179 : decode cX6_house 179 = .ok (.ireturn, 1) := by decide +kernel
theorem dX6_house_180 : decode cX6_house 180 = .ok (.aload_n 0, 1) := by decide +kernel
theorem dX6_house_181 : decode cX6_house 181 = .ok (.getfield 33, 3) := by decide +kernel
theorem dX6_house_184 : decode cX6_house 184 = .ok (.invokevirtual 247, 3) := by decide +kernel
theorem dX6_house_187 : decode cX6_house 187 = .ok (.ireturn, 1) := by decide +kernel
theorem dX6_house_188 : decode cX6_house 188 = .ok (.aload_n 0, 1) := by decide +kernel
theorem dX6_house_189 : decode cX6_house 189 = .ok (.getfield 250, 3) := by decide +kernel
theorem dX6_house_192 : decode cX6_house 192 = .ok (.ireturn, 1) := by decide +kernel
theorem dX6_house_193 : decode cX6_house 193 = .ok (.new 55, 3) := by decide +kernel
theorem dX6_house_196 : decode cX6_house 196 = .ok (.dup, 1) := by decide +kernel
theorem dX6_house_197 : decode cX6_house 197 = .ok (.ldc 254, 2) := by decide +kernel
theorem dX6_house_199 : decode cX6_house 199 = .ok (.invokespecial 59, 3) := by decide +kernel
theorem dX6_house_202 : decode cX6_house 202 = .ok (.athrow, 1) := by decide +kernel
set_option maxRecDepth 20000 in
theorem ggX6_wouldJoin_X6_lineOf : GoodIn wsX6_wouldJoin wsX6_lineOf := goodIn_ca (goodIn_r _ [6, 7, 8, 1, 9, 10, 11, 12, 13, 14, 15, 16, 17, 18, 19, 20, 21, 22, 23, 24, 25, 26, 27, 5, 28, 29, 30, 31, 32, 33, 39, 40, 41, 42, 43, 44, 45, 46, 47, 48, 49, 50] (by decide +kernel) (by decide +kernel)) (goodIn_sub (fun _ h => List.mem_cons_of_mem _ (List.mem_append_right _ h)) (by decide +kernel))
set_option maxRecDepth 20000 in
theorem gX6_wouldJoin_X6_lineOf : GoodIn wsX6_wouldJoin (wsV RX6 72 RX6 yX6_lineOf wsX6_lineOf) := goodIn_app (goodIn_of _ (by decide +kernel)) ggX6_wouldJoin_X6_lineOf
set_option maxRecDepth 20000 in
theorem ggX6_wouldJoin_X0_firstPairWithin : GoodIn wsX6_wouldJoin wsX0_firstPairWithin := goodIn_r _ [37, 15, 38, 27, 5, 28, 44, 45, 46, 47] (by decide +kernel) (by decide +kernel)
set_option maxRecDepth 20000 in
theorem gX6_wouldJoin_X0_firstPairWithin : GoodIn wsX6_wouldJoin (wsV RX6 76 RX0 yX0_firstPairWithin wsX0_firstPairWithin) := goodIn_app (goodIn_of _ (by decide +kernel)) ggX6_wouldJoin_X0_firstPairWithin
theorem dX6_wouldJoin_0 : decode cX6_wouldJoin 0 = .ok (.aload_n 0, 1) := by decide +kernel
theorem dX6_wouldJoin_1 : decode cX6_wouldJoin 1 = .ok (.getfield 10, 3) := by decide +kernel
theorem dX6_wouldJoin_4 : decode cX6_wouldJoin 4 = .ok (.aload_n 0, 1) := by decide +kernel
theorem dX6_wouldJoin_5 : decode cX6_wouldJoin 5 = .ok (.iload_n 1, 1) := by decide +kernel
theorem dX6_wouldJoin_6 : decode cX6_wouldJoin 6 = .ok (.invokevirtual 72, 3) := by decide +kernel
theorem dX6_wouldJoin_9 : decode cX6_wouldJoin 9 = .ok (.aload_n 0, 1) := by decide +kernel
theorem dX6_wouldJoin_10 : decode cX6_wouldJoin 10 = .ok (.iload_n 2, 1) := by decide +kernel
theorem dX6_wouldJoin_11 : decode cX6_wouldJoin 11 = .ok (.invokevirtual 72, 3) := by decide +kernel
theorem dX6_wouldJoin_14 : decode cX6_wouldJoin 14 = .ok (.ior, 1) := by decide +kernel
theorem dX6_wouldJoin_15 : decode cX6_wouldJoin 15 = .ok (.invokevirtual 76, 3) := by decide +kernel
theorem dX6_wouldJoin_18 : decode cX6_wouldJoin 18 = .ok (.ireturn, 1) := by decide +kernel
set_option maxRecDepth 20000 in
theorem ggX6_isSound_X4_areSound : GoodIn wsX6_isSound wsX4_areSound := goodIn_r _ [9, 10, 11, 12, 13, 14, 8, 15, 16, 17, 18, 19, 20, 21, 22, 23, 24, 25, 26, 27, 28, 29, 30, 31, 32, 33, 34, 35, 36, 37, 38, 39, 40, 41, 42, 43, 44, 45, 46, 47, 48, 49, 50, 51, 52, 53, 54, 55, 56, 57, 58, 59, 60, 61, 62, 63, 64, 65, 66, 67, 68, 69, 143, 144, 145, 146, 147, 148, 149, 150, 151, 152, 153, 154, 155] (by decide +kernel) (by decide +kernel)
set_option maxRecDepth 20000 in
theorem gX6_isSound_X4_areSound : GoodIn wsX6_isSound (wsV RX6 279 RX4 yX4_areSound wsX4_areSound) := goodIn_app (goodIn_of _ (by decide +kernel)) ggX6_isSound_X4_areSound
set_option maxRecDepth 20000 in
theorem ggX6_isSound_X5_areSound : GoodIn wsX6_isSound wsX5_areSound := goodIn_r _ [74, 75, 76, 77, 27, 28, 29, 78, 79, 80, 81, 82, 83, 84, 156, 157, 158, 159, 160, 161, 162] (by decide +kernel) (by decide +kernel)
set_option maxRecDepth 20000 in
theorem gX6_isSound_X5_areSound : GoodIn wsX6_isSound (wsV RX6 283 RX5 yX5_areSound wsX5_areSound) := goodIn_app (goodIn_of _ (by decide +kernel)) ggX6_isSound_X5_areSound
set_option maxRecDepth 20000 in
theorem ggX6_isSound_X2_areSound : GoodIn wsX6_isSound wsX2_areSound := goodIn_r _ [89, 90, 91, 92, 93, 88, 94, 95, 96, 97, 98, 99, 100, 101, 102, 27, 28, 29, 103, 104, 105, 106, 107, 108, 109, 110, 111, 112, 113, 114, 115, 116, 20, 117, 26, 118, 119, 120, 121, 122, 123, 124, 81, 125, 83, 126, 127, 128, 129, 84, 130, 18, 19, 21, 22, 23, 24, 25, 131, 132, 133, 134, 135, 136, 137, 163, 164, 165, 166, 167, 168, 169, 170, 152, 159, 160, 161, 162] (by decide +kernel) (by decide +kernel)
set_option maxRecDepth 20000 in
theorem gX6_isSound_X2_areSound : GoodIn wsX6_isSound (wsV RX6 286 RX2 yX2_areSound wsX2_areSound) := goodIn_app (goodIn_of _ (by decide +kernel)) ggX6_isSound_X2_areSound
theorem dX6_isSound_0 : decode cX6_isSound 0 = .ok (.aload_n 0, 1) := by decide +kernel
theorem dX6_isSound_1 : decode cX6_isSound 1 = .ok (.getfield 33, 3) := by decide +kernel
theorem dX6_isSound_4 : decode cX6_isSound 4 = .ok (.invokevirtual 279, 3) := by decide +kernel
theorem dX6_isSound_7 : decode cX6_isSound 7 = .ok (.ifCond .eq 35, 3) := by decide +kernel
theorem dX6_isSound_10 : decode cX6_isSound 10 = .ok (.aload_n 0, 1) := by decide +kernel
theorem dX6_isSound_11 : decode cX6_isSound 11 = .ok (.getfield 19, 3) := by decide +kernel
theorem dX6_isSound_14 : decode cX6_isSound 14 = .ok (.aload_n 0, 1) := by decide +kernel
theorem dX6_isSound_15 : decode cX6_isSound 15 = .ok (.getfield 10, 3) := by decide +kernel
theorem dX6_isSound_18 : decode cX6_isSound 18 = .ok (.invokevirtual 283, 3) := by decide +kernel
theorem dX6_isSound_21 : decode cX6_isSound 21 = .ok (.ifCond .eq 21, 3) := by decide +kernel
theorem dX6_isSound_24 : decode cX6_isSound 24 = .ok (.aload_n 0, 1) := by decide +kernel
theorem dX6_isSound_25 : decode cX6_isSound 25 = .ok (.getfield 26, 3) := by decide +kernel
theorem dX6_isSound_28 : decode cX6_isSound 28 = .ok (.aload_n 0, 1) := by decide +kernel
theorem dX6_isSound_29 : decode cX6_isSound 29 = .ok (.getfield 10, 3) := by decide +kernel
theorem dX6_isSound_32 : decode cX6_isSound 32 = .ok (.invokevirtual 286, 3) := by decide +kernel
theorem dX6_isSound_35 : decode cX6_isSound 35 = .ok (.ifCond .eq 7, 3) := by decide +kernel
theorem dX6_isSound_38 : decode cX6_isSound 38 = .ok (.iconst 1, 1) := by decide +kernel
theorem dX6_isSound_39 : decode cX6_isSound 39 = .ok (.goto 4, 3) := by decide +kernel
theorem dX6_isSound_42 : decode cX6_isSound 42 = .ok (.iconst 0, 1) := by decide +kernel
theorem dX6_isSound_43 : decode cX6_isSound 43 = .ok (.ireturn, 1) := by decide +kernel
theorem dX6_contains_0 : decode cX6_contains 0 = .ok (.iload_n 0, 1) := by decide +kernel
theorem dX6_contains_1 : decode cX6_contains 1 = .ok (.iload_n 1, 1) := by decide +kernel
theorem dX6_contains_2 : decode cX6_contains 2 = .ok (.ishr, 1) := by decide +kernel
theorem dX6_contains_3 : decode cX6_contains 3 = .ok (.iconst 1, 1) := by decide +kernel
theorem dX6_contains_4 : decode cX6_contains 4 = .ok (.iand, 1) := by decide +kernel
theorem dX6_contains_5 : decode cX6_contains 5 = .ok (.iconst 1, 1) := by decide +kernel
theorem dX6_contains_6 : decode cX6_contains 6 = .ok (.if_icmp .ne 7, 3) := by decide +kernel
theorem dX6_contains_9 : decode cX6_contains 9 = .ok (.iconst 1, 1) := by decide +kernel
theorem dX6_contains_10 : decode cX6_contains 10 = .ok (.goto 4, 3) := by decide +kernel
theorem dX6_contains_13 : decode cX6_contains 13 = .ok (.iconst 0, 1) := by decide +kernel
theorem dX6_contains_14 : decode cX6_contains 14 = .ok (.ireturn, 1) := by decide +kernel
set_option maxRecDepth 20000 in
theorem ggX6_applyBar_X2_findRepair : GoodIn wsX6_applyBar wsX2_findRepair := goodIn_r _ [8, 9, 10, 11, 12, 7, 13, 14, 15, 16, 17, 18, 19, 20, 21, 22, 23, 24, 25, 26, 27, 28, 29, 30, 31, 32, 33, 34, 35, 36, 37, 38, 39, 40, 41, 42, 43, 44, 45, 46, 47, 48, 49, 50, 51, 52, 53, 54, 55, 56, 57, 58, 59, 60, 61, 62, 63, 64, 65, 66, 67, 68, 69, 70, 71, 94, 95, 96, 97, 98, 99, 100, 101, 102, 103, 104, 105, 106] (by decide +kernel) (by decide +kernel)
set_option maxRecDepth 20000 in
theorem gX6_applyBar_X2_findRepair : GoodIn wsX6_applyBar (wsV RX6 97 RX2 yX2_findRepair wsX2_findRepair) := goodIn_app (goodIn_of _ (by decide +kernel)) ggX6_applyBar_X2_findRepair
set_option maxRecDepth 20000 in
theorem ggX6_applyBar_X5_strike : GoodIn wsX6_applyBar wsX5_strike := goodIn_r _ [76, 77, 78, 79, 80, 81, 82, 75, 83, 84, 26, 27, 28, 29, 30, 31, 85, 86, 87, 56, 88, 58, 63, 22, 23, 24, 107, 108, 109, 103, 104, 105, 106] (by decide +kernel) (by decide +kernel)
set_option maxRecDepth 20000 in
theorem gX6_applyBar_X5_strike : GoodIn wsX6_applyBar (wsV RX6 319 RX5 yX5_strike wsX5_strike) := goodIn_app (goodIn_of _ (by decide +kernel)) ggX6_applyBar_X5_strike
theorem dX6_applyBar_0 : decode cX6_applyBar 0 = .ok (.aload_n 0, 1) := by decide +kernel
theorem dX6_applyBar_1 : decode cX6_applyBar 1 = .ok (.getfield 26, 3) := by decide +kernel
theorem dX6_applyBar_4 : decode cX6_applyBar 4 = .ok (.aload_n 0, 1) := by decide +kernel
theorem dX6_applyBar_5 : decode cX6_applyBar 5 = .ok (.getfield 10, 3) := by decide +kernel
theorem dX6_applyBar_8 : decode cX6_applyBar 8 = .ok (.invokevirtual 97, 3) := by decide +kernel
theorem dX6_applyBar_11 : decode cX6_applyBar 11 = .ok (.aload_n 0, 1) := by decide +kernel
theorem dX6_applyBar_12 : decode cX6_applyBar 12 = .ok (.getfield 19, 3) := by decide +kernel
theorem dX6_applyBar_15 : decode cX6_applyBar 15 = .ok (.aload_n 0, 1) := by decide +kernel
theorem dX6_applyBar_16 : decode cX6_applyBar 16 = .ok (.getfield 10, 3) := by decide +kernel
theorem dX6_applyBar_19 : decode cX6_applyBar 19 = .ok (.invokevirtual 319, 3) := by decide +kernel
theorem dX6_applyBar_22 : decode cX6_applyBar 22 = .ok (.ireturn, 1) := by decide +kernel
set_option maxRecDepth 20000 in
theorem ggX6_lineOf_X0_knows : GoodIn wsX6_lineOf wsX0_knows := goodIn_r _ [9, 10, 35, 36, 37, 38] (by decide +kernel) (by decide +kernel)
set_option maxRecDepth 20000 in
theorem gX6_lineOf_X0_knows : GoodIn wsX6_lineOf (wsV RX6 322 RX0 yX0_knows wsX0_knows) := goodIn_app (goodIn_of _ (by decide +kernel)) ggX6_lineOf_X0_knows
set_option maxRecDepth 20000 in
theorem ggX6_lineOf_X5_knows : GoodIn wsX6_lineOf wsX5_knows := goodIn_r _ [15, 16, 39, 40, 41] (by decide +kernel) (by decide +kernel)
set_option maxRecDepth 20000 in
theorem gX6_lineOf_X5_knows : GoodIn wsX6_lineOf (wsV RX6 174 RX5 yX5_knows wsX5_knows) := goodIn_app (goodIn_of _ (by decide +kernel)) ggX6_lineOf_X5_knows
set_option maxRecDepth 20000 in
theorem ggX6_lineOf_X5_isStruck : GoodIn wsX6_lineOf wsX5_isStruck := goodIn_r _ [20, 21, 22, 23, 24, 39, 40, 41] (by decide +kernel) (by decide +kernel)
set_option maxRecDepth 20000 in
theorem gX6_lineOf_X5_isStruck : GoodIn wsX6_lineOf (wsV RX6 185 RX5 yX5_isStruck wsX5_isStruck) := goodIn_app (goodIn_of _ (by decide +kernel)) ggX6_lineOf_X5_isStruck
set_option maxRecDepth 20000 in
theorem ggX6_lineOf_X5_line : GoodIn wsX6_lineOf wsX5_line := goodIn_r _ [28, 29, 39, 40, 41] (by decide +kernel) (by decide +kernel)
set_option maxRecDepth 20000 in
theorem gX6_lineOf_X5_line : GoodIn wsX6_lineOf (wsV RX6 182 RX5 yX5_line wsX5_line) := goodIn_app (goodIn_of _ (by decide +kernel)) ggX6_lineOf_X5_line
theorem dX6_lineOf_0 : decode cX6_lineOf 0 = .ok (.aload_n 0, 1) := by decide +kernel
theorem dX6_lineOf_1 : decode cX6_lineOf 1 = .ok (.getfield 10, 3) := by decide +kernel
theorem dX6_lineOf_4 : decode cX6_lineOf 4 = .ok (.iload_n 1, 1) := by decide +kernel
theorem dX6_lineOf_5 : decode cX6_lineOf 5 = .ok (.invokevirtual 322, 3) := by decide +kernel
theorem dX6_lineOf_8 : decode cX6_lineOf 8 = .ok (.ifCond .eq 7, 3) := by decide +kernel
theorem dX6_lineOf_11 : decode cX6_lineOf 11 = .ok (.iconst 1, 1) := by decide +kernel
theorem dX6_lineOf_12 : decode cX6_lineOf 12 = .ok (.iload_n 1, 1) := by decide +kernel
theorem dX6_lineOf_13 : decode cX6_lineOf 13 = .ok (.ishl, 1) := by decide +kernel
theorem dX6_lineOf_14 : decode cX6_lineOf 14 = .ok (.ireturn, 1) := by decide +kernel
theorem dX6_lineOf_15 : decode cX6_lineOf 15 = .ok (.aload_n 0, 1) := by decide +kernel
theorem dX6_lineOf_16 : decode cX6_lineOf 16 = .ok (.getfield 19, 3) := by decide +kernel
theorem dX6_lineOf_19 : decode cX6_lineOf 19 = .ok (.iload_n 1, 1) := by decide +kernel
theorem dX6_lineOf_20 : decode cX6_lineOf 20 = .ok (.invokevirtual 174, 3) := by decide +kernel
theorem dX6_lineOf_23 : decode cX6_lineOf 23 = .ok (.ifCond .eq 14, 3) := by decide +kernel
theorem dX6_lineOf_26 : decode cX6_lineOf 26 = .ok (.aload_n 0, 1) := by decide +kernel
theorem dX6_lineOf_27 : decode cX6_lineOf 27 = .ok (.getfield 19, 3) := by decide +kernel
theorem dX6_lineOf_30 : decode cX6_lineOf 30 = .ok (.iload_n 1, 1) := by decide +kernel
theorem dX6_lineOf_31 : decode cX6_lineOf 31 = .ok (.invokevirtual 185, 3) := by decide +kernel
theorem dX6_lineOf_34 : decode cX6_lineOf 34 = .ok (.ifCond .eq 14, 3) := by decide +kernel
theorem dX6_lineOf_37 : decode cX6_lineOf 37 = .ok (.new 177, 3) := by decide +kernel
theorem dX6_lineOf_40 : decode cX6_lineOf 40 = .ok (.dup, 1) := by decide +kernel
theorem dX6_lineOf_41 : decode cX6_lineOf 41 = .ok (.ldc_w 323, 3) := by decide +kernel
theorem dX6_lineOf_44 : decode cX6_lineOf 44 = .ok (.invokespecial 181, 3) := by decide +kernel
theorem dX6_lineOf_47 : decode cX6_lineOf 47 = .ok (.athrow, 1) := by decide +kernel
theorem dX6_lineOf_48 : decode cX6_lineOf 48 = .ok (.aload_n 0, 1) := by decide +kernel
theorem dX6_lineOf_49 : decode cX6_lineOf 49 = .ok (.getfield 19, 3) := by decide +kernel
theorem dX6_lineOf_52 : decode cX6_lineOf 52 = .ok (.iload_n 1, 1) := by decide +kernel
theorem dX6_lineOf_53 : decode cX6_lineOf 53 = .ok (.invokevirtual 182, 3) := by decide +kernel
theorem dX6_lineOf_56 : decode cX6_lineOf 56 = .ok (.ireturn, 1) := by decide +kernel
set_option maxRecDepth 20000 in
theorem ggX6_needSource_X0_knows : GoodIn wsX6_needSource wsX0_knows := goodIn_r _ [8, 9, 15, 16, 17, 18] (by decide +kernel) (by decide +kernel)
set_option maxRecDepth 20000 in
theorem gX6_needSource_X0_knows : GoodIn wsX6_needSource (wsV RX6 322 RX0 yX0_knows wsX0_knows) := goodIn_app (goodIn_of _ (by decide +kernel)) ggX6_needSource_X0_knows
theorem dX6_needSource_0 : decode cX6_needSource 0 = .ok (.aload_n 0, 1) := by decide +kernel
theorem dX6_needSource_1 : decode cX6_needSource 1 = .ok (.getfield 10, 3) := by decide +kernel
theorem dX6_needSource_4 : decode cX6_needSource 4 = .ok (.iload_n 1, 1) := by decide +kernel
theorem dX6_needSource_5 : decode cX6_needSource 5 = .ok (.invokevirtual 322, 3) := by decide +kernel
theorem dX6_needSource_8 : decode cX6_needSource 8 = .ok (.ifCond .ne 14, 3) := by decide +kernel
theorem dX6_needSource_11 : decode cX6_needSource 11 = .ok (.new 177, 3) := by decide +kernel
theorem dX6_needSource_14 : decode cX6_needSource 14 = .ok (.dup, 1) := by decide +kernel
theorem dX6_needSource_15 : decode cX6_needSource 15 = .ok (.ldc_w 325, 3) := by decide +kernel
theorem dX6_needSource_18 : decode cX6_needSource 18 = .ok (.invokespecial 181, 3) := by decide +kernel
theorem dX6_needSource_21 : decode cX6_needSource 21 = .ok (.athrow, 1) := by decide +kernel
theorem dX6_needSource_22 : decode cX6_needSource 22 = .ok (.return_, 1) := by decide +kernel
set_option maxRecDepth 20000 in
theorem ggX6_needAsker_X4_knowsAsker : GoodIn wsX6_needAsker wsX4_knowsAsker := goodIn_r _ [8, 9, 15, 16, 17, 18, 19, 20, 21, 22, 23] (by decide +kernel) (by decide +kernel)
set_option maxRecDepth 20000 in
theorem gX6_needAsker_X4_knowsAsker : GoodIn wsX6_needAsker (wsV RX6 330 RX4 yX4_knowsAsker wsX4_knowsAsker) := goodIn_app (goodIn_of _ (by decide +kernel)) ggX6_needAsker_X4_knowsAsker
theorem dX6_needAsker_0 : decode cX6_needAsker 0 = .ok (.aload_n 0, 1) := by decide +kernel
theorem dX6_needAsker_1 : decode cX6_needAsker 1 = .ok (.getfield 33, 3) := by decide +kernel
theorem dX6_needAsker_4 : decode cX6_needAsker 4 = .ok (.iload_n 1, 1) := by decide +kernel
theorem dX6_needAsker_5 : decode cX6_needAsker 5 = .ok (.invokevirtual 330, 3) := by decide +kernel
theorem dX6_needAsker_8 : decode cX6_needAsker 8 = .ok (.ifCond .ne 14, 3) := by decide +kernel
theorem dX6_needAsker_11 : decode cX6_needAsker 11 = .ok (.new 177, 3) := by decide +kernel
theorem dX6_needAsker_14 : decode cX6_needAsker 14 = .ok (.dup, 1) := by decide +kernel
theorem dX6_needAsker_15 : decode cX6_needAsker 15 = .ok (.ldc_w 333, 3) := by decide +kernel
theorem dX6_needAsker_18 : decode cX6_needAsker 18 = .ok (.invokespecial 181, 3) := by decide +kernel
theorem dX6_needAsker_21 : decode cX6_needAsker 21 = .ok (.athrow, 1) := by decide +kernel
theorem dX6_needAsker_22 : decode cX6_needAsker 22 = .ok (.return_, 1) := by decide +kernel
set_option maxRecDepth 20000 in
theorem ggX6_needPeople_X4_knowsPeople : GoodIn wsX6_needPeople wsX4_knowsPeople := goodIn_r _ [8, 9, 10, 11, 7, 12, 13, 19, 20, 21, 22, 23, 24, 25, 26, 27] (by decide +kernel) (by decide +kernel)
set_option maxRecDepth 20000 in
theorem gX6_needPeople_X4_knowsPeople : GoodIn wsX6_needPeople (wsV RX6 335 RX4 yX4_knowsPeople wsX4_knowsPeople) := goodIn_app (goodIn_of _ (by decide +kernel)) ggX6_needPeople_X4_knowsPeople
theorem dX6_needPeople_0 : decode cX6_needPeople 0 = .ok (.aload_n 0, 1) := by decide +kernel
theorem dX6_needPeople_1 : decode cX6_needPeople 1 = .ok (.getfield 33, 3) := by decide +kernel
theorem dX6_needPeople_4 : decode cX6_needPeople 4 = .ok (.iload_n 1, 1) := by decide +kernel
theorem dX6_needPeople_5 : decode cX6_needPeople 5 = .ok (.invokevirtual 335, 3) := by decide +kernel
theorem dX6_needPeople_8 : decode cX6_needPeople 8 = .ok (.ifCond .ne 14, 3) := by decide +kernel
theorem dX6_needPeople_11 : decode cX6_needPeople 11 = .ok (.new 55, 3) := by decide +kernel
theorem dX6_needPeople_14 : decode cX6_needPeople 14 = .ok (.dup, 1) := by decide +kernel
theorem dX6_needPeople_15 : decode cX6_needPeople 15 = .ok (.ldc_w 338, 3) := by decide +kernel
theorem dX6_needPeople_18 : decode cX6_needPeople 18 = .ok (.invokespecial 59, 3) := by decide +kernel
theorem dX6_needPeople_21 : decode cX6_needPeople 21 = .ok (.athrow, 1) := by decide +kernel
theorem dX6_needPeople_22 : decode cX6_needPeople 22 = .ok (.return_, 1) := by decide +kernel
set_option maxRecDepth 20000 in
theorem ggX6_needSomePeople_X6_needPeople : GoodIn wsX6_needSomePeople wsX6_needPeople := goodIn_ca (goodIn_r _ [7, 1, 2, 8, 9, 10, 11, 12, 13, 14, 15, 16, 17, 18, 19, 20, 21, 22, 23, 24, 25, 26, 27, 28, 29, 30, 31, 32] (by decide +kernel) (by decide +kernel)) (goodIn_sub (fun _ h => List.mem_cons_of_mem _ (List.mem_append_right _ h)) (by decide +kernel))
set_option maxRecDepth 20000 in
theorem gX6_needSomePeople_X6_needPeople : GoodIn wsX6_needSomePeople (wsV RX6 222 RX6 yX6_needPeople wsX6_needPeople) := goodIn_app (goodIn_of _ (by decide +kernel)) ggX6_needSomePeople_X6_needPeople
theorem dX6_needSomePeople_0 : decode cX6_needSomePeople 0 = .ok (.aload_n 0, 1) := by decide +kernel
theorem dX6_needSomePeople_1 : decode cX6_needSomePeople 1 = .ok (.iload_n 1, 1) := by decide +kernel
theorem dX6_needSomePeople_2 : decode cX6_needSomePeople 2 = .ok (.invokevirtual 222, 3) := by decide +kernel
theorem dX6_needSomePeople_5 : decode cX6_needSomePeople 5 = .ok (.iload_n 1, 1) := by decide +kernel
theorem dX6_needSomePeople_6 : decode cX6_needSomePeople 6 = .ok (.ifCond .ne 14, 3) := by decide +kernel
theorem dX6_needSomePeople_9 : decode cX6_needSomePeople 9 = .ok (.new 55, 3) := by decide +kernel
theorem dX6_needSomePeople_12 : decode cX6_needSomePeople 12 = .ok (.dup, 1) := by decide +kernel
theorem dX6_needSomePeople_13 : decode cX6_needSomePeople 13 = .ok (.ldc_w 340, 3) := by decide +kernel
theorem dX6_needSomePeople_16 : decode cX6_needSomePeople 16 = .ok (.invokespecial 59, 3) := by decide +kernel
theorem dX6_needSomePeople_19 : decode cX6_needSomePeople 19 = .ok (.athrow, 1) := by decide +kernel
theorem dX6_needSomePeople_20 : decode cX6_needSomePeople 20 = .ok (.return_, 1) := by decide +kernel
set_option maxRecDepth 20000 in
theorem ggJ6_valueOf_2dffe_J6_init_d00df : GoodIn wsJ6_valueOf_2dffe wsJ6_init_d00df := goodIn_r _ [8, 9, 10, 11, 12, 13, 14, 15, 16, 17] (by decide +kernel) (by decide +kernel)
set_option maxRecDepth 20000 in
theorem gJ6_valueOf_2dffe_J6_init_d00df : GoodIn wsJ6_valueOf_2dffe (wsJ6_init_d00df) := ggJ6_valueOf_2dffe_J6_init_d00df
theorem dJ6_valueOf_2dffe_0 : decode cJ6_valueOf_2dffe 0 = .ok (.iload_n 0, 1) := by decide +kernel
theorem dJ6_valueOf_2dffe_1 : decode cJ6_valueOf_2dffe 1 = .ok (.bipush (-128), 2) := by decide +kernel
theorem dJ6_valueOf_2dffe_3 : decode cJ6_valueOf_2dffe 3 = .ok (.if_icmp .lt 20, 3) := by decide +kernel
theorem dJ6_valueOf_2dffe_6 : decode cJ6_valueOf_2dffe 6 = .ok (.iload_n 0, 1) := by decide +kernel
theorem dJ6_valueOf_2dffe_7 : decode cJ6_valueOf_2dffe 7 = .ok (.getstatic 191, 3) := by decide +kernel
theorem dJ6_valueOf_2dffe_10 : decode cJ6_valueOf_2dffe 10 = .ok (.if_icmp .gt 13, 3) := by decide +kernel
theorem dJ6_valueOf_2dffe_13 : decode cJ6_valueOf_2dffe 13 = .ok (.getstatic 195, 3) := by decide +kernel
theorem dJ6_valueOf_2dffe_16 : decode cJ6_valueOf_2dffe 16 = .ok (.iload_n 0, 1) := by decide +kernel
theorem dJ6_valueOf_2dffe_17 : decode cJ6_valueOf_2dffe 17 = .ok (.sipush 128, 3) := by decide +kernel
theorem dJ6_valueOf_2dffe_20 : decode cJ6_valueOf_2dffe 20 = .ok (.iadd, 1) := by decide +kernel
theorem dJ6_valueOf_2dffe_21 : decode cJ6_valueOf_2dffe 21 = .ok (.aaload, 1) := by decide +kernel
theorem dJ6_valueOf_2dffe_22 : decode cJ6_valueOf_2dffe 22 = .ok (.areturn, 1) := by decide +kernel
theorem dJ6_valueOf_2dffe_23 : decode cJ6_valueOf_2dffe 23 = .ok (.new 1, 3) := by decide +kernel
theorem dJ6_valueOf_2dffe_26 : decode cJ6_valueOf_2dffe 26 = .ok (.dup, 1) := by decide +kernel
theorem dJ6_valueOf_2dffe_27 : decode cJ6_valueOf_2dffe 27 = .ok (.iload_n 0, 1) := by decide +kernel
theorem dJ6_valueOf_2dffe_28 : decode cJ6_valueOf_2dffe 28 = .ok (.invokespecial 199, 3) := by decide +kernel
theorem dJ6_valueOf_2dffe_31 : decode cJ6_valueOf_2dffe 31 = .ok (.areturn, 1) := by decide +kernel
set_option maxRecDepth 20000 in
theorem ggJ6_init_d00df_Jxd2413_init_da8c8 : GoodIn wsJ6_init_d00df wsJxd2413_init_da8c8 := goodIn_r _ [5, 6, 7, 8] (by decide +kernel) (by decide +kernel)
set_option maxRecDepth 20000 in
theorem gJ6_init_d00df_Jxd2413_init_da8c8 : GoodIn wsJ6_init_d00df (wsJxd2413_init_da8c8) := ggJ6_init_d00df_Jxd2413_init_da8c8
theorem dJ6_init_d00df_0 : decode cJ6_init_d00df 0 = .ok (.aload_n 0, 1) := by decide +kernel
theorem dJ6_init_d00df_1 : decode cJ6_init_d00df 1 = .ok (.invokespecial 202, 3) := by decide +kernel
theorem dJ6_init_d00df_4 : decode cJ6_init_d00df 4 = .ok (.aload_n 0, 1) := by decide +kernel
theorem dJ6_init_d00df_5 : decode cJ6_init_d00df 5 = .ok (.iload_n 1, 1) := by decide +kernel
theorem dJ6_init_d00df_6 : decode cJ6_init_d00df 6 = .ok (.putfield 205, 3) := by decide +kernel
theorem dJ6_init_d00df_9 : decode cJ6_init_d00df 9 = .ok (.return_, 1) := by decide +kernel
theorem dJ6_intValue_8abf5_0 : decode cJ6_intValue_8abf5 0 = .ok (.aload_n 0, 1) := by decide +kernel
theorem dJ6_intValue_8abf5_1 : decode cJ6_intValue_8abf5 1 = .ok (.getfield 205, 3) := by decide +kernel
theorem dJ6_intValue_8abf5_4 : decode cJ6_intValue_8abf5 4 = .ok (.ireturn, 1) := by decide +kernel
theorem dJ6_bitCount_0f7a4_0 : decode cJ6_bitCount_0f7a4 0 = .ok (.iload_n 0, 1) := by decide +kernel
theorem dJ6_bitCount_0f7a4_1 : decode cJ6_bitCount_0f7a4 1 = .ok (.iload_n 0, 1) := by decide +kernel
theorem dJ6_bitCount_0f7a4_2 : decode cJ6_bitCount_0f7a4 2 = .ok (.iconst 1, 1) := by decide +kernel
theorem dJ6_bitCount_0f7a4_3 : decode cJ6_bitCount_0f7a4 3 = .ok (.iushr, 1) := by decide +kernel
theorem dJ6_bitCount_0f7a4_4 : decode cJ6_bitCount_0f7a4 4 = .ok (.ldc_w 265, 3) := by decide +kernel
theorem dJ6_bitCount_0f7a4_7 : decode cJ6_bitCount_0f7a4 7 = .ok (.iand, 1) := by decide +kernel
theorem dJ6_bitCount_0f7a4_8 : decode cJ6_bitCount_0f7a4 8 = .ok (.isub, 1) := by decide +kernel
theorem dJ6_bitCount_0f7a4_9 : decode cJ6_bitCount_0f7a4 9 = .ok (.istore_n 0, 1) := by decide +kernel
theorem dJ6_bitCount_0f7a4_10 : decode cJ6_bitCount_0f7a4 10 = .ok (.iload_n 0, 1) := by decide +kernel
theorem dJ6_bitCount_0f7a4_11 : decode cJ6_bitCount_0f7a4 11 = .ok (.ldc_w 266, 3) := by decide +kernel
theorem dJ6_bitCount_0f7a4_14 : decode cJ6_bitCount_0f7a4 14 = .ok (.iand, 1) := by decide +kernel
theorem dJ6_bitCount_0f7a4_15 : decode cJ6_bitCount_0f7a4 15 = .ok (.iload_n 0, 1) := by decide +kernel
theorem dJ6_bitCount_0f7a4_16 : decode cJ6_bitCount_0f7a4 16 = .ok (.iconst 2, 1) := by decide +kernel
theorem dJ6_bitCount_0f7a4_17 : decode cJ6_bitCount_0f7a4 17 = .ok (.iushr, 1) := by decide +kernel
theorem dJ6_bitCount_0f7a4_18 : decode cJ6_bitCount_0f7a4 18 = .ok (.ldc_w 266, 3) := by decide +kernel
theorem dJ6_bitCount_0f7a4_21 : decode cJ6_bitCount_0f7a4 21 = .ok (.iand, 1) := by decide +kernel
theorem dJ6_bitCount_0f7a4_22 : decode cJ6_bitCount_0f7a4 22 = .ok (.iadd, 1) := by decide +kernel
theorem dJ6_bitCount_0f7a4_23 : decode cJ6_bitCount_0f7a4 23 = .ok (.istore_n 0, 1) := by decide +kernel
theorem dJ6_bitCount_0f7a4_24 : decode cJ6_bitCount_0f7a4 24 = .ok (.iload_n 0, 1) := by decide +kernel
theorem dJ6_bitCount_0f7a4_25 : decode cJ6_bitCount_0f7a4 25 = .ok (.iload_n 0, 1) := by decide +kernel
theorem dJ6_bitCount_0f7a4_26 : decode cJ6_bitCount_0f7a4 26 = .ok (.iconst 4, 1) := by decide +kernel
theorem dJ6_bitCount_0f7a4_27 : decode cJ6_bitCount_0f7a4 27 = .ok (.iushr, 1) := by decide +kernel
theorem dJ6_bitCount_0f7a4_28 : decode cJ6_bitCount_0f7a4 28 = .ok (.iadd, 1) := by decide +kernel
theorem dJ6_bitCount_0f7a4_29 : decode cJ6_bitCount_0f7a4 29 = .ok (.ldc_w 267, 3) := by decide +kernel
theorem dJ6_bitCount_0f7a4_32 : decode cJ6_bitCount_0f7a4 32 = .ok (.iand, 1) := by decide +kernel
theorem dJ6_bitCount_0f7a4_33 : decode cJ6_bitCount_0f7a4 33 = .ok (.istore_n 0, 1) := by decide +kernel
theorem dJ6_bitCount_0f7a4_34 : decode cJ6_bitCount_0f7a4 34 = .ok (.iload_n 0, 1) := by decide +kernel
theorem dJ6_bitCount_0f7a4_35 : decode cJ6_bitCount_0f7a4 35 = .ok (.iload_n 0, 1) := by decide +kernel
theorem dJ6_bitCount_0f7a4_36 : decode cJ6_bitCount_0f7a4 36 = .ok (.bipush 8, 2) := by decide +kernel
theorem dJ6_bitCount_0f7a4_38 : decode cJ6_bitCount_0f7a4 38 = .ok (.iushr, 1) := by decide +kernel
theorem dJ6_bitCount_0f7a4_39 : decode cJ6_bitCount_0f7a4 39 = .ok (.iadd, 1) := by decide +kernel
theorem dJ6_bitCount_0f7a4_40 : decode cJ6_bitCount_0f7a4 40 = .ok (.istore_n 0, 1) := by decide +kernel
theorem dJ6_bitCount_0f7a4_41 : decode cJ6_bitCount_0f7a4 41 = .ok (.iload_n 0, 1) := by decide +kernel
theorem dJ6_bitCount_0f7a4_42 : decode cJ6_bitCount_0f7a4 42 = .ok (.iload_n 0, 1) := by decide +kernel
theorem dJ6_bitCount_0f7a4_43 : decode cJ6_bitCount_0f7a4 43 = .ok (.bipush 16, 2) := by decide +kernel
theorem dJ6_bitCount_0f7a4_45 : decode cJ6_bitCount_0f7a4 45 = .ok (.iushr, 1) := by decide +kernel
theorem dJ6_bitCount_0f7a4_46 : decode cJ6_bitCount_0f7a4 46 = .ok (.iadd, 1) := by decide +kernel
theorem dJ6_bitCount_0f7a4_47 : decode cJ6_bitCount_0f7a4 47 = .ok (.istore_n 0, 1) := by decide +kernel
theorem dJ6_bitCount_0f7a4_48 : decode cJ6_bitCount_0f7a4 48 = .ok (.iload_n 0, 1) := by decide +kernel
theorem dJ6_bitCount_0f7a4_49 : decode cJ6_bitCount_0f7a4 49 = .ok (.bipush 63, 2) := by decide +kernel
theorem dJ6_bitCount_0f7a4_51 : decode cJ6_bitCount_0f7a4 51 = .ok (.iand, 1) := by decide +kernel
theorem dJ6_bitCount_0f7a4_52 : decode cJ6_bitCount_0f7a4 52 = .ok (.ireturn, 1) := by decide +kernel
theorem dJ9_floorMod_f86c9_0 : decode cJ9_floorMod_f86c9 0 = .ok (.lload_n 0, 1) := by decide +kernel
theorem dJ9_floorMod_f86c9_1 : decode cJ9_floorMod_f86c9 1 = .ok (.lload_n 2, 1) := by decide +kernel
theorem dJ9_floorMod_f86c9_2 : decode cJ9_floorMod_f86c9 2 = .ok (.lrem, 1) := by decide +kernel
theorem dJ9_floorMod_f86c9_3 : decode cJ9_floorMod_f86c9 3 = .ok (.lstore 4, 2) := by decide +kernel
theorem dJ9_floorMod_f86c9_5 : decode cJ9_floorMod_f86c9 5 = .ok (.lload_n 0, 1) := by decide +kernel
theorem dJ9_floorMod_f86c9_6 : decode cJ9_floorMod_f86c9 6 = .ok (.lload_n 2, 1) := by decide +kernel
theorem dJ9_floorMod_f86c9_7 : decode cJ9_floorMod_f86c9 7 = .ok (.lxor, 1) := by decide +kernel
theorem dJ9_floorMod_f86c9_8 : decode cJ9_floorMod_f86c9 8 = .ok (.lconst 0, 1) := by decide +kernel
theorem dJ9_floorMod_f86c9_9 : decode cJ9_floorMod_f86c9 9 = .ok (.lcmp, 1) := by decide +kernel
theorem dJ9_floorMod_f86c9_10 : decode cJ9_floorMod_f86c9 10 = .ok (.ifCond .ge 15, 3) := by decide +kernel
theorem dJ9_floorMod_f86c9_13 : decode cJ9_floorMod_f86c9 13 = .ok (.lload 4, 2) := by decide +kernel
theorem dJ9_floorMod_f86c9_15 : decode cJ9_floorMod_f86c9 15 = .ok (.lconst 0, 1) := by decide +kernel
theorem dJ9_floorMod_f86c9_16 : decode cJ9_floorMod_f86c9 16 = .ok (.lcmp, 1) := by decide +kernel
theorem dJ9_floorMod_f86c9_17 : decode cJ9_floorMod_f86c9 17 = .ok (.ifCond .eq 8, 3) := by decide +kernel
theorem dJ9_floorMod_f86c9_20 : decode cJ9_floorMod_f86c9 20 = .ok (.lload 4, 2) := by decide +kernel
theorem dJ9_floorMod_f86c9_22 : decode cJ9_floorMod_f86c9 22 = .ok (.lload_n 2, 1) := by decide +kernel
theorem dJ9_floorMod_f86c9_23 : decode cJ9_floorMod_f86c9 23 = .ok (.ladd, 1) := by decide +kernel
theorem dJ9_floorMod_f86c9_24 : decode cJ9_floorMod_f86c9 24 = .ok (.lreturn, 1) := by decide +kernel
theorem dJ9_floorMod_f86c9_25 : decode cJ9_floorMod_f86c9 25 = .ok (.lload 4, 2) := by decide +kernel
theorem dJ9_floorMod_f86c9_27 : decode cJ9_floorMod_f86c9 27 = .ok (.lreturn, 1) := by decide +kernel
theorem dJ9_max_7cf53_0 : decode cJ9_max_7cf53 0 = .ok (.iload_n 0, 1) := by decide +kernel
theorem dJ9_max_7cf53_1 : decode cJ9_max_7cf53 1 = .ok (.iload_n 1, 1) := by decide +kernel
theorem dJ9_max_7cf53_2 : decode cJ9_max_7cf53 2 = .ok (.if_icmp .lt 7, 3) := by decide +kernel
theorem dJ9_max_7cf53_5 : decode cJ9_max_7cf53 5 = .ok (.iload_n 0, 1) := by decide +kernel
theorem dJ9_max_7cf53_6 : decode cJ9_max_7cf53 6 = .ok (.goto 4, 3) := by decide +kernel
theorem dJ9_max_7cf53_9 : decode cJ9_max_7cf53 9 = .ok (.iload_n 1, 1) := by decide +kernel
theorem dJ9_max_7cf53_10 : decode cJ9_max_7cf53 10 = .ok (.ireturn, 1) := by decide +kernel
theorem dJ9_min_7cf53_0 : decode cJ9_min_7cf53 0 = .ok (.iload_n 0, 1) := by decide +kernel
theorem dJ9_min_7cf53_1 : decode cJ9_min_7cf53 1 = .ok (.iload_n 1, 1) := by decide +kernel
theorem dJ9_min_7cf53_2 : decode cJ9_min_7cf53 2 = .ok (.if_icmp .gt 7, 3) := by decide +kernel
theorem dJ9_min_7cf53_5 : decode cJ9_min_7cf53 5 = .ok (.iload_n 0, 1) := by decide +kernel
theorem dJ9_min_7cf53_6 : decode cJ9_min_7cf53 6 = .ok (.goto 4, 3) := by decide +kernel
theorem dJ9_min_7cf53_9 : decode cJ9_min_7cf53 9 = .ok (.iload_n 1, 1) := by decide +kernel
theorem dJ9_min_7cf53_10 : decode cJ9_min_7cf53 10 = .ok (.ireturn, 1) := by decide +kernel
theorem dJxd2413_init_da8c8_0 : decode cJxd2413_init_da8c8 0 = .ok (.aload_n 0, 1) := by decide +kernel
theorem dJxd2413_init_da8c8_1 : decode cJxd2413_init_da8c8 1 = .ok (.invokespecial 1, 3) := by decide +kernel
theorem dJxd2413_init_da8c8_4 : decode cJxd2413_init_da8c8 4 = .ok (.return_, 1) := by decide +kernel
theorem dJxa1e45_init_da8c8_0 : decode cJxa1e45_init_da8c8 0 = .ok (.aload_n 0, 1) := by decide +kernel
theorem dJxa1e45_init_da8c8_1 : decode cJxa1e45_init_da8c8 1 = .ok (.invokespecial 1, 3) := by decide +kernel
theorem dJxa1e45_init_da8c8_4 : decode cJxa1e45_init_da8c8 4 = .ok (.return_, 1) := by decide +kernel
set_option maxRecDepth 20000 in
theorem ggJxc12de_init_da8c8_Jxa1e45_init_da8c8 : GoodIn wsJxc12de_init_da8c8 wsJxa1e45_init_da8c8 := goodIn_r _ [5, 6, 7, 8] (by decide +kernel) (by decide +kernel)
set_option maxRecDepth 20000 in
theorem gJxc12de_init_da8c8_Jxa1e45_init_da8c8 : GoodIn wsJxc12de_init_da8c8 (wsJxa1e45_init_da8c8) := ggJxc12de_init_da8c8_Jxa1e45_init_da8c8
theorem dJxc12de_init_da8c8_0 : decode cJxc12de_init_da8c8 0 = .ok (.aload_n 0, 1) := by decide +kernel
theorem dJxc12de_init_da8c8_1 : decode cJxc12de_init_da8c8 1 = .ok (.invokespecial 1, 3) := by decide +kernel
theorem dJxc12de_init_da8c8_4 : decode cJxc12de_init_da8c8 4 = .ok (.aload_n 0, 1) := by decide +kernel
theorem dJxc12de_init_da8c8_5 : decode cJxc12de_init_da8c8 5 = .ok (.iconst 0, 1) := by decide +kernel
theorem dJxc12de_init_da8c8_6 : decode cJxc12de_init_da8c8 6 = .ok (.putfield 7, 3) := by decide +kernel
theorem dJxc12de_init_da8c8_9 : decode cJxc12de_init_da8c8 9 = .ok (.return_, 1) := by decide +kernel
theorem dJx35411_init_45d68_0 : decode cJx35411_init_45d68 0 = .ok (.aload_n 0, 1) := by decide +kernel
theorem dJx35411_init_45d68_1 : decode cJx35411_init_45d68 1 = .ok (.aload_n 1, 1) := by decide +kernel
theorem dJx35411_init_45d68_2 : decode cJx35411_init_45d68 2 = .ok (.putfield 1, 3) := by decide +kernel
theorem dJx35411_init_45d68_5 : decode cJx35411_init_45d68 5 = .ok (.aload_n 0, 1) := by decide +kernel
theorem dJx35411_init_45d68_6 : decode cJx35411_init_45d68 6 = .ok (.invokespecial 7, 3) := by decide +kernel
theorem dJx35411_init_45d68_9 : decode cJx35411_init_45d68 9 = .ok (.aload_n 0, 1) := by decide +kernel
theorem dJx35411_init_45d68_10 : decode cJx35411_init_45d68 10 = .ok (.iconst (-1), 1) := by decide +kernel
theorem dJx35411_init_45d68_11 : decode cJx35411_init_45d68 11 = .ok (.putfield 13, 3) := by decide +kernel
theorem dJx35411_init_45d68_14 : decode cJx35411_init_45d68 14 = .ok (.aload_n 0, 1) := by decide +kernel
theorem dJx35411_init_45d68_15 : decode cJx35411_init_45d68 15 = .ok (.aload_n 0, 1) := by decide +kernel
theorem dJx35411_init_45d68_16 : decode cJx35411_init_45d68 16 = .ok (.getfield 1, 3) := by decide +kernel
theorem dJx35411_init_45d68_19 : decode cJx35411_init_45d68 19 = .ok (.getfield 17, 3) := by decide +kernel
theorem dJx35411_init_45d68_22 : decode cJx35411_init_45d68 22 = .ok (.putfield 22, 3) := by decide +kernel
theorem dJx35411_init_45d68_25 : decode cJx35411_init_45d68 25 = .ok (.return_, 1) := by decide +kernel
theorem dJx35411_hasNext_aae02_0 : decode cJx35411_hasNext_aae02 0 = .ok (.aload_n 0, 1) := by decide +kernel
theorem dJx35411_hasNext_aae02_1 : decode cJx35411_hasNext_aae02 1 = .ok (.getfield 25, 3) := by decide +kernel
theorem dJx35411_hasNext_aae02_4 : decode cJx35411_hasNext_aae02 4 = .ok (.aload_n 0, 1) := by decide +kernel
theorem dJx35411_hasNext_aae02_5 : decode cJx35411_hasNext_aae02 5 = .ok (.getfield 1, 3) := by decide +kernel
theorem dJx35411_hasNext_aae02_8 : decode cJx35411_hasNext_aae02 8 = .ok (.getfield 28, 3) := by decide +kernel
theorem dJx35411_hasNext_aae02_11 : decode cJx35411_hasNext_aae02 11 = .ok (.if_icmp .eq 7, 3) := by decide +kernel
theorem dJx35411_hasNext_aae02_14 : decode cJx35411_hasNext_aae02 14 = .ok (.iconst 1, 1) := by decide +kernel
theorem dJx35411_hasNext_aae02_15 : decode cJx35411_hasNext_aae02 15 = .ok (.goto 4, 3) := by decide +kernel
theorem dJx35411_hasNext_aae02_18 : decode cJx35411_hasNext_aae02 18 = .ok (.iconst 0, 1) := by decide +kernel
theorem dJx35411_hasNext_aae02_19 : decode cJx35411_hasNext_aae02 19 = .ok (.ireturn, 1) := by decide +kernel
set_option maxRecDepth 20000 in
theorem ggJx35411_next_0502b_Jx35411_checkForComodification_da8c8 : GoodIn wsJx35411_next_0502b wsJx35411_checkForComodification_da8c8 := goodIn_r _ [9, 2, 10, 11, 12, 13, 14, 15, 16, 17, 18, 19] (by decide +kernel) (by decide +kernel)
set_option maxRecDepth 20000 in
theorem gJx35411_next_0502b_Jx35411_checkForComodification_da8c8 : GoodIn wsJx35411_next_0502b (wsV RJx35411 31 RJx35411 yJx35411_checkForComodification_da8c8 wsJx35411_checkForComodification_da8c8) := goodIn_app (goodIn_of _ (by decide +kernel)) ggJx35411_next_0502b_Jx35411_checkForComodification_da8c8
theorem dJx35411_next_0502b_0 : decode cJx35411_next_0502b 0 = .ok (.aload_n 0, 1) := by decide +kernel
theorem dJx35411_next_0502b_1 : decode cJx35411_next_0502b 1 = .ok (.invokevirtual 31, 3) := by decide +kernel
theorem dJx35411_next_0502b_4 : decode cJx35411_next_0502b 4 = .ok (.aload_n 0, 1) := by decide +kernel
theorem dJx35411_next_0502b_5 : decode cJx35411_next_0502b 5 = .ok (.getfield 25, 3) := by decide +kernel
theorem dJx35411_next_0502b_8 : decode cJx35411_next_0502b 8 = .ok (.istore_n 1, 1) := by decide +kernel
theorem dJx35411_next_0502b_9 : decode cJx35411_next_0502b 9 = .ok (.iload_n 1, 1) := by decide +kernel
theorem dJx35411_next_0502b_10 : decode cJx35411_next_0502b 10 = .ok (.aload_n 0, 1) := by decide +kernel
theorem dJx35411_next_0502b_11 : decode cJx35411_next_0502b 11 = .ok (.getfield 1, 3) := by decide +kernel
theorem dJx35411_next_0502b_14 : decode cJx35411_next_0502b 14 = .ok (.getfield 28, 3) := by decide +kernel
theorem dJx35411_next_0502b_17 : decode cJx35411_next_0502b 17 = .ok (.if_icmp .lt 11, 3) := by decide +kernel
theorem dJx35411_next_0502b_20 : decode cJx35411_next_0502b 20 = .ok (.new 34, 3) := by decide +kernel
theorem dJx35411_next_0502b_23 : decode cJx35411_next_0502b 23 = .ok (.dup, 1) := by decide +kernel
theorem dJx35411_next_0502b_24 : decode cJx35411_next_0502b 24 = .ok (.invokespecial 36, 3) := by decide +kernel
theorem dJx35411_next_0502b_27 : decode cJx35411_next_0502b 27 = .ok (.athrow, 1) := by decide +kernel
theorem dJx35411_next_0502b_28 : decode cJx35411_next_0502b 28 = .ok (.aload_n 0, 1) := by decide +kernel
theorem dJx35411_next_0502b_29 : decode cJx35411_next_0502b 29 = .ok (.getfield 1, 3) := by decide +kernel
theorem dJx35411_next_0502b_32 : decode cJx35411_next_0502b 32 = .ok (.getfield 37, 3) := by decide +kernel
theorem dJx35411_next_0502b_35 : decode cJx35411_next_0502b 35 = .ok (.astore_n 2, 1) := by decide +kernel
theorem dJx35411_next_0502b_36 : decode cJx35411_next_0502b 36 = .ok (.iload_n 1, 1) := by decide +kernel
theorem dJx35411_next_0502b_37 : decode cJx35411_next_0502b 37 = .ok (.aload_n 2, 1) := by decide +kernel
theorem dJx35411_next_0502b_38 : decode cJx35411_next_0502b 38 = .ok (.arraylength, 1) := by decide +kernel
theorem dJx35411_next_0502b_39 : decode cJx35411_next_0502b 39 = .ok (.if_icmp .lt 11, 3) := by decide +kernel
theorem dJx35411_next_0502b_42 : decode cJx35411_next_0502b 42 = .ok (.new 41, 3) := by decide +kernel
theorem dJx35411_next_0502b_45 : decode cJx35411_next_0502b 45 = .ok (.dup, 1) := by decide +kernel
theorem dJx35411_next_0502b_46 : decode cJx35411_next_0502b 46 = .ok (.invokespecial 43, 3) := by decide +kernel
theorem dJx35411_next_0502b_49 : decode cJx35411_next_0502b 49 = .ok (.athrow, 1) := by decide +kernel
theorem dJx35411_next_0502b_50 : decode cJx35411_next_0502b 50 = .ok (.aload_n 0, 1) := by decide +kernel
theorem dJx35411_next_0502b_51 : decode cJx35411_next_0502b 51 = .ok (.iload_n 1, 1) := by decide +kernel
theorem dJx35411_next_0502b_52 : decode cJx35411_next_0502b 52 = .ok (.iconst 1, 1) := by decide +kernel
theorem dJx35411_next_0502b_53 : decode cJx35411_next_0502b 53 = .ok (.iadd, 1) := by decide +kernel
theorem dJx35411_next_0502b_54 : decode cJx35411_next_0502b 54 = .ok (.putfield 25, 3) := by decide +kernel
theorem dJx35411_next_0502b_57 : decode cJx35411_next_0502b 57 = .ok (.aload_n 2, 1) := by decide +kernel
theorem dJx35411_next_0502b_58 : decode cJx35411_next_0502b 58 = .ok (.aload_n 0, 1) := by decide +kernel
theorem dJx35411_next_0502b_59 : decode cJx35411_next_0502b 59 = .ok (.iload_n 1, 1) := by decide +kernel
theorem dJx35411_next_0502b_60 : decode cJx35411_next_0502b 60 = .ok (.dup_x1, 1) := by decide +kernel
theorem dJx35411_next_0502b_61 : decode cJx35411_next_0502b 61 = .ok (.putfield 13, 3) := by decide +kernel
theorem dJx35411_next_0502b_64 : decode cJx35411_next_0502b 64 = .ok (.aaload, 1) := by decide +kernel
theorem dJx35411_next_0502b_65 : decode cJx35411_next_0502b 65 = .ok (.areturn, 1) := by decide +kernel
theorem dJx35411_checkForComodification_da8c8_0 : decode cJx35411_checkForComodification_da8c8 0 = .ok (.aload_n 0, 1) := by decide +kernel
theorem dJx35411_checkForComodification_da8c8_1 : decode cJx35411_checkForComodification_da8c8 1 = .ok (.getfield 1, 3) := by decide +kernel
theorem dJx35411_checkForComodification_da8c8_4 : decode cJx35411_checkForComodification_da8c8 4 = .ok (.getfield 17, 3) := by decide +kernel
theorem dJx35411_checkForComodification_da8c8_7 : decode cJx35411_checkForComodification_da8c8 7 = .ok (.aload_n 0, 1) := by decide +kernel
theorem dJx35411_checkForComodification_da8c8_8 : decode cJx35411_checkForComodification_da8c8 8 = .ok (.getfield 22, 3) := by decide +kernel
theorem dJx35411_checkForComodification_da8c8_11 : decode cJx35411_checkForComodification_da8c8 11 = .ok (.if_icmp .eq 11, 3) := by decide +kernel
theorem dJx35411_checkForComodification_da8c8_14 : decode cJx35411_checkForComodification_da8c8 14 = .ok (.new 41, 3) := by decide +kernel
theorem dJx35411_checkForComodification_da8c8_17 : decode cJx35411_checkForComodification_da8c8 17 = .ok (.dup, 1) := by decide +kernel
theorem dJx35411_checkForComodification_da8c8_18 : decode cJx35411_checkForComodification_da8c8 18 = .ok (.invokespecial 43, 3) := by decide +kernel
theorem dJx35411_checkForComodification_da8c8_21 : decode cJx35411_checkForComodification_da8c8 21 = .ok (.athrow, 1) := by decide +kernel
theorem dJx35411_checkForComodification_da8c8_22 : decode cJx35411_checkForComodification_da8c8 22 = .ok (.return_, 1) := by decide +kernel
set_option maxRecDepth 20000 in
theorem ggJx4a65c_init_da8c8_Jxc12de_init_da8c8 : GoodIn wsJx4a65c_init_da8c8 wsJxc12de_init_da8c8 := goodIn_r _ [6, 7, 8, 9, 10, 11, 12, 13, 14, 15, 16, 17] (by decide +kernel) (by decide +kernel)
set_option maxRecDepth 20000 in
theorem gJx4a65c_init_da8c8_Jxc12de_init_da8c8 : GoodIn wsJx4a65c_init_da8c8 (wsJxc12de_init_da8c8) := ggJx4a65c_init_da8c8_Jxc12de_init_da8c8
theorem dJx4a65c_init_da8c8_0 : decode cJx4a65c_init_da8c8 0 = .ok (.aload_n 0, 1) := by decide +kernel
theorem dJx4a65c_init_da8c8_1 : decode cJx4a65c_init_da8c8 1 = .ok (.invokespecial 1, 3) := by decide +kernel
theorem dJx4a65c_init_da8c8_4 : decode cJx4a65c_init_da8c8 4 = .ok (.aload_n 0, 1) := by decide +kernel
theorem dJx4a65c_init_da8c8_5 : decode cJx4a65c_init_da8c8 5 = .ok (.getstatic 39, 3) := by decide +kernel
theorem dJx4a65c_init_da8c8_8 : decode cJx4a65c_init_da8c8 8 = .ok (.putfield 9, 3) := by decide +kernel
theorem dJx4a65c_init_da8c8_11 : decode cJx4a65c_init_da8c8 11 = .ok (.return_, 1) := by decide +kernel
set_option maxRecDepth 20000 in
theorem ggJx4a65c_grow_92f84_J8_newLength_cabcc : GoodIn wsJx4a65c_grow_92f84 wsJ8_newLength_cabcc := goodIn_r _ [11, 12, 4, 5, 6, 13, 14, 15, 10, 16] (by decide +kernel) (by decide +kernel)
set_option maxRecDepth 20000 in
theorem gJx4a65c_grow_92f84_J8_newLength_cabcc : GoodIn wsJx4a65c_grow_92f84 (va_wsS RJx4a65c 73 yJ8_newLength_cabcc wsJ8_newLength_cabcc) := goodIn_app (goodIn_of _ (by decide +kernel)) ggJx4a65c_grow_92f84_J8_newLength_cabcc
set_option maxRecDepth 20000 in
theorem ggJx4a65c_grow_92f84_J7_copyOf_1904c : GoodIn wsJx4a65c_grow_92f84 wsJ7_copyOf_1904c := goodIn_r _ [20, 21, 22, 23, 24, 25, 26, 19, 27, 28, 29, 30, 31, 5, 32, 33, 34, 35, 36] (by decide +kernel) (by decide +kernel)
set_option maxRecDepth 20000 in
theorem gJx4a65c_grow_92f84_J7_copyOf_1904c : GoodIn wsJx4a65c_grow_92f84 (va_wsS RJx4a65c 66 yJ7_copyOf_1904c wsJ7_copyOf_1904c) := goodIn_app (goodIn_of _ (by decide +kernel)) ggJx4a65c_grow_92f84_J7_copyOf_1904c
theorem dJx4a65c_grow_92f84_0 : decode cJx4a65c_grow_92f84 0 = .ok (.aload_n 0, 1) := by decide +kernel
theorem dJx4a65c_grow_92f84_1 : decode cJx4a65c_grow_92f84 1 = .ok (.getfield 9, 3) := by decide +kernel
theorem dJx4a65c_grow_92f84_4 : decode cJx4a65c_grow_92f84 4 = .ok (.arraylength, 1) := by decide +kernel
theorem dJx4a65c_grow_92f84_5 : decode cJx4a65c_grow_92f84 5 = .ok (.istore_n 2, 1) := by decide +kernel
theorem dJx4a65c_grow_92f84_6 : decode cJx4a65c_grow_92f84 6 = .ok (.iload_n 2, 1) := by decide +kernel
theorem dJx4a65c_grow_92f84_7 : decode cJx4a65c_grow_92f84 7 = .ok (.ifCond .gt 13, 3) := by decide +kernel
theorem dJx4a65c_grow_92f84_10 : decode cJx4a65c_grow_92f84 10 = .ok (.aload_n 0, 1) := by decide +kernel
theorem dJx4a65c_grow_92f84_11 : decode cJx4a65c_grow_92f84 11 = .ok (.getfield 9, 3) := by decide +kernel
theorem dJx4a65c_grow_92f84_14 : decode cJx4a65c_grow_92f84 14 = .ok (.getstatic 39, 3) := by decide +kernel
theorem dJx4a65c_grow_92f84_17 : decode cJx4a65c_grow_92f84 17 = .ok (.if_acmp .eq 28, 3) := by decide +kernel
theorem dJx4a65c_grow_92f84_20 : decode cJx4a65c_grow_92f84 20 = .ok (.iload_n 2, 1) := by decide +kernel
theorem dJx4a65c_grow_92f84_21 : decode cJx4a65c_grow_92f84 21 = .ok (.iload_n 1, 1) := by decide +kernel
theorem dJx4a65c_grow_92f84_22 : decode cJx4a65c_grow_92f84 22 = .ok (.iload_n 2, 1) := by decide +kernel
theorem dJx4a65c_grow_92f84_23 : decode cJx4a65c_grow_92f84 23 = .ok (.isub, 1) := by decide +kernel
theorem dJx4a65c_grow_92f84_24 : decode cJx4a65c_grow_92f84 24 = .ok (.iload_n 2, 1) := by decide +kernel
theorem dJx4a65c_grow_92f84_25 : decode cJx4a65c_grow_92f84 25 = .ok (.iconst 1, 1) := by decide +kernel
theorem dJx4a65c_grow_92f84_26 : decode cJx4a65c_grow_92f84 26 = .ok (.ishr, 1) := by decide +kernel
theorem dJx4a65c_grow_92f84_27 : decode cJx4a65c_grow_92f84 27 = .ok (.invokestatic 73, 3) := by decide +kernel
theorem dJx4a65c_grow_92f84_30 : decode cJx4a65c_grow_92f84 30 = .ok (.istore_n 3, 1) := by decide +kernel
theorem dJx4a65c_grow_92f84_31 : decode cJx4a65c_grow_92f84 31 = .ok (.aload_n 0, 1) := by decide +kernel
theorem dJx4a65c_grow_92f84_32 : decode cJx4a65c_grow_92f84 32 = .ok (.aload_n 0, 1) := by decide +kernel
theorem dJx4a65c_grow_92f84_33 : decode cJx4a65c_grow_92f84 33 = .ok (.getfield 9, 3) := by decide +kernel
theorem dJx4a65c_grow_92f84_36 : decode cJx4a65c_grow_92f84 36 = .ok (.iload_n 3, 1) := by decide +kernel
theorem dJx4a65c_grow_92f84_37 : decode cJx4a65c_grow_92f84 37 = .ok (.invokestatic 66, 3) := by decide +kernel
theorem dJx4a65c_grow_92f84_40 : decode cJx4a65c_grow_92f84 40 = .ok (.dup_x1, 1) := by decide +kernel
theorem dJx4a65c_grow_92f84_41 : decode cJx4a65c_grow_92f84 41 = .ok (.putfield 9, 3) := by decide +kernel
theorem dJx4a65c_grow_92f84_44 : decode cJx4a65c_grow_92f84 44 = .ok (.areturn, 1) := by decide +kernel
theorem dJx4a65c_grow_92f84_45 : decode cJx4a65c_grow_92f84 45 = .ok (.aload_n 0, 1) := by decide +kernel
theorem dJx4a65c_grow_92f84_46 : decode cJx4a65c_grow_92f84 46 = .ok (.bipush 10, 2) := by decide +kernel
theorem dJx4a65c_grow_92f84_48 : decode cJx4a65c_grow_92f84 48 = .ok (.iload_n 1, 1) := by decide +kernel
theorem dJx4a65c_grow_92f84_49 : decode cJx4a65c_grow_92f84 49 = .ok (.invokestatic 79, 3) := by decide +kernel
theorem dJx4a65c_grow_92f84_52 : decode cJx4a65c_grow_92f84 52 = .ok (.anewarray 7, 3) := by decide +kernel
theorem dJx4a65c_grow_92f84_55 : decode cJx4a65c_grow_92f84 55 = .ok (.dup_x1, 1) := by decide +kernel
theorem dJx4a65c_grow_92f84_56 : decode cJx4a65c_grow_92f84 56 = .ok (.putfield 9, 3) := by decide +kernel
theorem dJx4a65c_grow_92f84_59 : decode cJx4a65c_grow_92f84 59 = .ok (.areturn, 1) := by decide +kernel
set_option maxRecDepth 20000 in
theorem ggJx4a65c_grow_d5877_Jx4a65c_grow_92f84 : GoodIn wsJx4a65c_grow_d5877 wsJx4a65c_grow_92f84 := goodIn_r _ [6, 7, 8, 9, 10, 11, 12, 13, 14, 15, 16, 17, 18, 19, 20, 21, 22, 23, 24, 25, 26, 27, 28, 29, 30, 31, 32, 33, 34, 35, 36, 37, 38, 39, 40, 41, 42, 43, 44, 45] (by decide +kernel) (by decide +kernel)
set_option maxRecDepth 20000 in
theorem gJx4a65c_grow_d5877_Jx4a65c_grow_92f84 : GoodIn wsJx4a65c_grow_d5877 (wsV RJx4a65c 69 RJx4a65c yJx4a65c_grow_92f84 wsJx4a65c_grow_92f84) := goodIn_app (goodIn_of _ (by decide +kernel)) ggJx4a65c_grow_d5877_Jx4a65c_grow_92f84
theorem dJx4a65c_grow_d5877_0 : decode cJx4a65c_grow_d5877 0 = .ok (.aload_n 0, 1) := by decide +kernel
theorem dJx4a65c_grow_d5877_1 : decode cJx4a65c_grow_d5877 1 = .ok (.aload_n 0, 1) := by decide +kernel
theorem dJx4a65c_grow_d5877_2 : decode cJx4a65c_grow_d5877 2 = .ok (.getfield 48, 3) := by decide +kernel
theorem dJx4a65c_grow_d5877_5 : decode cJx4a65c_grow_d5877 5 = .ok (.iconst 1, 1) := by decide +kernel
theorem dJx4a65c_grow_d5877_6 : decode cJx4a65c_grow_d5877 6 = .ok (.iadd, 1) := by decide +kernel
theorem dJx4a65c_grow_d5877_7 : decode cJx4a65c_grow_d5877 7 = .ok (.invokevirtual 69, 3) := by decide +kernel
theorem dJx4a65c_grow_d5877_10 : decode cJx4a65c_grow_d5877 10 = .ok (.areturn, 1) := by decide +kernel
theorem dJx4a65c_size_8abf5_0 : decode cJx4a65c_size_8abf5 0 = .ok (.aload_n 0, 1) := by decide +kernel
theorem dJx4a65c_size_8abf5_1 : decode cJx4a65c_size_8abf5 1 = .ok (.getfield 48, 3) := by decide +kernel
theorem dJx4a65c_size_8abf5_4 : decode cJx4a65c_size_8abf5 4 = .ok (.ireturn, 1) := by decide +kernel
theorem dJx4a65c_elementData_915e3_0 : decode cJx4a65c_elementData_915e3 0 = .ok (.aload_n 0, 1) := by decide +kernel
theorem dJx4a65c_elementData_915e3_1 : decode cJx4a65c_elementData_915e3 1 = .ok (.getfield 9, 3) := by decide +kernel
theorem dJx4a65c_elementData_915e3_4 : decode cJx4a65c_elementData_915e3 4 = .ok (.iload_n 1, 1) := by decide +kernel
theorem dJx4a65c_elementData_915e3_5 : decode cJx4a65c_elementData_915e3 5 = .ok (.aaload, 1) := by decide +kernel
theorem dJx4a65c_elementData_915e3_6 : decode cJx4a65c_elementData_915e3 6 = .ok (.areturn, 1) := by decide +kernel
set_option maxRecDepth 20000 in
theorem ggJx4a65c_get_915e3_J15_checkIndex_7cf53 : GoodIn wsJx4a65c_get_915e3 wsJ15_checkIndex_7cf53 := goodIn_r _ [5, 6, 7, 8, 9] (by decide +kernel) (by decide +kernel)
set_option maxRecDepth 20000 in
theorem gJx4a65c_get_915e3_J15_checkIndex_7cf53 : GoodIn wsJx4a65c_get_915e3 (va_wsS RJx4a65c 118 yJ15_checkIndex_7cf53 wsJ15_checkIndex_7cf53) := goodIn_app (goodIn_of _ (by decide +kernel)) ggJx4a65c_get_915e3_J15_checkIndex_7cf53
set_option maxRecDepth 20000 in
theorem ggJx4a65c_get_915e3_Jx4a65c_elementData_915e3 : GoodIn wsJx4a65c_get_915e3 wsJx4a65c_elementData_915e3 := goodIn_r _ [14, 15, 16, 17, 18] (by decide +kernel) (by decide +kernel)
set_option maxRecDepth 20000 in
theorem gJx4a65c_get_915e3_Jx4a65c_elementData_915e3 : GoodIn wsJx4a65c_get_915e3 (wsV RJx4a65c 123 RJx4a65c yJx4a65c_elementData_915e3 wsJx4a65c_elementData_915e3) := goodIn_app (goodIn_of _ (by decide +kernel)) ggJx4a65c_get_915e3_Jx4a65c_elementData_915e3
theorem dJx4a65c_get_915e3_0 : decode cJx4a65c_get_915e3 0 = .ok (.iload_n 1, 1) := by decide +kernel
theorem dJx4a65c_get_915e3_1 : decode cJx4a65c_get_915e3 1 = .ok (.aload_n 0, 1) := by decide +kernel
theorem dJx4a65c_get_915e3_2 : decode cJx4a65c_get_915e3 2 = .ok (.getfield 48, 3) := by decide +kernel
theorem dJx4a65c_get_915e3_5 : decode cJx4a65c_get_915e3 5 = .ok (.invokestatic 118, 3) := by decide +kernel
theorem dJx4a65c_get_915e3_8 : decode cJx4a65c_get_915e3 8 = .ok (.pop, 1) := by decide +kernel
theorem dJx4a65c_get_915e3_9 : decode cJx4a65c_get_915e3 9 = .ok (.aload_n 0, 1) := by decide +kernel
theorem dJx4a65c_get_915e3_10 : decode cJx4a65c_get_915e3 10 = .ok (.iload_n 1, 1) := by decide +kernel
theorem dJx4a65c_get_915e3_11 : decode cJx4a65c_get_915e3 11 = .ok (.invokevirtual 123, 3) := by decide +kernel
theorem dJx4a65c_get_915e3_14 : decode cJx4a65c_get_915e3 14 = .ok (.areturn, 1) := by decide +kernel
set_option maxRecDepth 20000 in
theorem ggJx4a65c_add_72be8_Jx4a65c_grow_d5877 : GoodIn wsJx4a65c_add_72be8 wsJx4a65c_grow_d5877 := goodIn_r _ [6, 1, 7, 8, 9, 5, 10, 11, 12, 13, 14, 15, 16, 17, 18, 19, 20, 21, 22, 23, 24, 25, 26, 27, 28, 29, 30, 31, 32, 33, 34, 35, 36, 37, 38, 39, 40, 41, 42, 43, 44, 45, 46, 47, 48, 49] (by decide +kernel) (by decide +kernel)
set_option maxRecDepth 20000 in
theorem gJx4a65c_add_72be8_Jx4a65c_grow_d5877 : GoodIn wsJx4a65c_add_72be8 (wsV RJx4a65c 129 RJx4a65c yJx4a65c_grow_d5877 wsJx4a65c_grow_d5877) := goodIn_app (goodIn_of _ (by decide +kernel)) ggJx4a65c_add_72be8_Jx4a65c_grow_d5877
theorem dJx4a65c_add_72be8_0 : decode cJx4a65c_add_72be8 0 = .ok (.iload_n 3, 1) := by decide +kernel
theorem dJx4a65c_add_72be8_1 : decode cJx4a65c_add_72be8 1 = .ok (.aload_n 2, 1) := by decide +kernel
theorem dJx4a65c_add_72be8_2 : decode cJx4a65c_add_72be8 2 = .ok (.arraylength, 1) := by decide +kernel
theorem dJx4a65c_add_72be8_3 : decode cJx4a65c_add_72be8 3 = .ok (.if_icmp .ne 8, 3) := by decide +kernel
theorem dJx4a65c_add_72be8_6 : decode cJx4a65c_add_72be8 6 = .ok (.aload_n 0, 1) := by decide +kernel
theorem dJx4a65c_add_72be8_7 : decode cJx4a65c_add_72be8 7 = .ok (.invokevirtual 129, 3) := by decide +kernel
theorem dJx4a65c_add_72be8_10 : decode cJx4a65c_add_72be8 10 = .ok (.astore_n 2, 1) := by decide +kernel
theorem dJx4a65c_add_72be8_11 : decode cJx4a65c_add_72be8 11 = .ok (.aload_n 2, 1) := by decide +kernel
theorem dJx4a65c_add_72be8_12 : decode cJx4a65c_add_72be8 12 = .ok (.iload_n 3, 1) := by decide +kernel
theorem dJx4a65c_add_72be8_13 : decode cJx4a65c_add_72be8 13 = .ok (.aload_n 1, 1) := by decide +kernel
theorem dJx4a65c_add_72be8_14 : decode cJx4a65c_add_72be8 14 = .ok (.aastore, 1) := by decide +kernel
theorem dJx4a65c_add_72be8_15 : decode cJx4a65c_add_72be8 15 = .ok (.aload_n 0, 1) := by decide +kernel
theorem dJx4a65c_add_72be8_16 : decode cJx4a65c_add_72be8 16 = .ok (.iload_n 3, 1) := by decide +kernel
theorem dJx4a65c_add_72be8_17 : decode cJx4a65c_add_72be8 17 = .ok (.iconst 1, 1) := by decide +kernel
theorem dJx4a65c_add_72be8_18 : decode cJx4a65c_add_72be8 18 = .ok (.iadd, 1) := by decide +kernel
theorem dJx4a65c_add_72be8_19 : decode cJx4a65c_add_72be8 19 = .ok (.putfield 48, 3) := by decide +kernel
theorem dJx4a65c_add_72be8_22 : decode cJx4a65c_add_72be8 22 = .ok (.return_, 1) := by decide +kernel
set_option maxRecDepth 20000 in
theorem ggJx4a65c_add_9ea2d_Jx4a65c_add_72be8 : GoodIn wsJx4a65c_add_9ea2d wsJx4a65c_add_72be8 := goodIn_r _ [9, 4, 10, 11, 12, 8, 13, 14, 15, 16, 17, 3, 18, 19, 20, 21, 22, 23, 24, 25, 26, 27, 28, 29, 30, 31, 32, 33, 34, 35, 36, 37, 38, 39, 40, 41, 42, 43, 44, 45, 46, 47, 48, 49, 50, 51, 52, 53, 54, 55] (by decide +kernel) (by decide +kernel)
set_option maxRecDepth 20000 in
theorem gJx4a65c_add_9ea2d_Jx4a65c_add_72be8 : GoodIn wsJx4a65c_add_9ea2d (wsV RJx4a65c 131 RJx4a65c yJx4a65c_add_72be8 wsJx4a65c_add_72be8) := goodIn_app (goodIn_of _ (by decide +kernel)) ggJx4a65c_add_9ea2d_Jx4a65c_add_72be8
theorem dJx4a65c_add_9ea2d_0 : decode cJx4a65c_add_9ea2d 0 = .ok (.aload_n 0, 1) := by decide +kernel
theorem dJx4a65c_add_9ea2d_1 : decode cJx4a65c_add_9ea2d 1 = .ok (.dup, 1) := by decide +kernel
theorem dJx4a65c_add_9ea2d_2 : decode cJx4a65c_add_9ea2d 2 = .ok (.getfield 63, 3) := by decide +kernel
theorem dJx4a65c_add_9ea2d_5 : decode cJx4a65c_add_9ea2d 5 = .ok (.iconst 1, 1) := by decide +kernel
theorem dJx4a65c_add_9ea2d_6 : decode cJx4a65c_add_9ea2d 6 = .ok (.iadd, 1) := by decide +kernel
theorem dJx4a65c_add_9ea2d_7 : decode cJx4a65c_add_9ea2d 7 = .ok (.putfield 63, 3) := by decide +kernel
theorem dJx4a65c_add_9ea2d_10 : decode cJx4a65c_add_9ea2d 10 = .ok (.aload_n 0, 1) := by decide +kernel
theorem dJx4a65c_add_9ea2d_11 : decode cJx4a65c_add_9ea2d 11 = .ok (.aload_n 1, 1) := by decide +kernel
theorem dJx4a65c_add_9ea2d_12 : decode cJx4a65c_add_9ea2d 12 = .ok (.aload_n 0, 1) := by decide +kernel
theorem dJx4a65c_add_9ea2d_13 : decode cJx4a65c_add_9ea2d 13 = .ok (.getfield 9, 3) := by decide +kernel
theorem dJx4a65c_add_9ea2d_16 : decode cJx4a65c_add_9ea2d 16 = .ok (.aload_n 0, 1) := by decide +kernel
theorem dJx4a65c_add_9ea2d_17 : decode cJx4a65c_add_9ea2d 17 = .ok (.getfield 48, 3) := by decide +kernel
theorem dJx4a65c_add_9ea2d_20 : decode cJx4a65c_add_9ea2d 20 = .ok (.invokevirtual 131, 3) := by decide +kernel
theorem dJx4a65c_add_9ea2d_23 : decode cJx4a65c_add_9ea2d 23 = .ok (.iconst 1, 1) := by decide +kernel
theorem dJx4a65c_add_9ea2d_24 : decode cJx4a65c_add_9ea2d 24 = .ok (.ireturn, 1) := by decide +kernel
set_option maxRecDepth 20000 in
theorem ggJx4a65c_iterator_32c93_Jx35411_init_45d68 : GoodIn wsJx4a65c_iterator_32c93 wsJx35411_init_45d68 := goodIn_r _ [6, 7, 8, 9, 10, 11, 12, 13, 14, 15, 16, 17, 18, 19, 20, 21] (by decide +kernel) (by decide +kernel)
set_option maxRecDepth 20000 in
theorem gJx4a65c_iterator_32c93_Jx35411_init_45d68 : GoodIn wsJx4a65c_iterator_32c93 (wsJx35411_init_45d68) := ggJx4a65c_iterator_32c93_Jx35411_init_45d68
theorem dJx4a65c_iterator_32c93_0 : decode cJx4a65c_iterator_32c93 0 = .ok (.new 267, 3) := by decide +kernel
theorem dJx4a65c_iterator_32c93_3 : decode cJx4a65c_iterator_32c93 3 = .ok (.dup, 1) := by decide +kernel
theorem dJx4a65c_iterator_32c93_4 : decode cJx4a65c_iterator_32c93 4 = .ok (.aload_n 0, 1) := by decide +kernel
theorem dJx4a65c_iterator_32c93_5 : decode cJx4a65c_iterator_32c93 5 = .ok (.invokespecial 269, 3) := by decide +kernel
theorem dJx4a65c_iterator_32c93_8 : decode cJx4a65c_iterator_32c93 8 = .ok (.areturn, 1) := by decide +kernel
set_option maxRecDepth 20000 in
theorem ggJ7_copyOf_1904c_J7_copyOf_6403c : GoodIn wsJ7_copyOf_1904c wsJ7_copyOf_6403c := goodIn_r _ [8, 9, 10, 11, 12, 13, 14, 15, 16, 17, 18] (by decide +kernel) (by decide +kernel)
set_option maxRecDepth 20000 in
theorem gJ7_copyOf_1904c_J7_copyOf_6403c : GoodIn wsJ7_copyOf_1904c (va_wsS RJ7 300 yJ7_copyOf_6403c wsJ7_copyOf_6403c) := goodIn_app (goodIn_of _ (by decide +kernel)) ggJ7_copyOf_1904c_J7_copyOf_6403c
theorem dJ7_copyOf_1904c_0 : decode cJ7_copyOf_1904c 0 = .ok (.aload_n 0, 1) := by decide +kernel
theorem dJ7_copyOf_1904c_1 : decode cJ7_copyOf_1904c 1 = .ok (.iload_n 1, 1) := by decide +kernel
theorem dJ7_copyOf_1904c_2 : decode cJ7_copyOf_1904c 2 = .ok (.aload_n 0, 1) := by decide +kernel
theorem dJ7_copyOf_1904c_3 : decode cJ7_copyOf_1904c 3 = .ok (.invokevirtual 86, 3) := by decide +kernel
theorem dJ7_copyOf_1904c_6 : decode cJ7_copyOf_1904c 6 = .ok (.invokestatic 300, 3) := by decide +kernel
theorem dJ7_copyOf_1904c_9 : decode cJ7_copyOf_1904c 9 = .ok (.areturn, 1) := by decide +kernel
theorem dJ7_copyOf_6403c_0 : decode cJ7_copyOf_6403c 0 = .ok (.aload_n 2, 1) := by decide +kernel
theorem dJ7_copyOf_6403c_1 : decode cJ7_copyOf_6403c 1 = .ok (.ldc 110, 2) := by decide +kernel
theorem dJ7_copyOf_6403c_3 : decode cJ7_copyOf_6403c 3 = .ok (.if_acmp .ne 10, 3) := by decide +kernel
theorem dJ7_copyOf_6403c_6 : decode cJ7_copyOf_6403c 6 = .ok (.iload_n 1, 1) := by decide +kernel
theorem dJ7_copyOf_6403c_7 : decode cJ7_copyOf_6403c 7 = .ok (.anewarray 2, 3) := by decide +kernel
theorem dJ7_copyOf_6403c_10 : decode cJ7_copyOf_6403c 10 = .ok (.goto 14, 3) := by decide +kernel
theorem dJ7_copyOf_6403c_13 : decode cJ7_copyOf_6403c 13 = .ok (.aload_n 2, 1) := by decide +kernel
theorem dJ7_copyOf_6403c_14 : decode cJ7_copyOf_6403c 14 = .ok (.invokevirtual 90, 3) := by decide +kernel
theorem dJ7_copyOf_6403c_17 : decode cJ7_copyOf_6403c 17 = .ok (.iload_n 1, 1) := by decide +kernel
theorem dJ7_copyOf_6403c_18 : decode cJ7_copyOf_6403c 18 = .ok (.invokestatic 95, 3) := by decide +kernel
theorem dJ7_copyOf_6403c_21 : decode cJ7_copyOf_6403c 21 = .ok (.checkcast 110, 3) := by decide +kernel
theorem dJ7_copyOf_6403c_24 : decode cJ7_copyOf_6403c 24 = .ok (.astore_n 3, 1) := by decide +kernel
theorem dJ7_copyOf_6403c_25 : decode cJ7_copyOf_6403c 25 = .ok (.aload_n 0, 1) := by decide +kernel
theorem dJ7_copyOf_6403c_26 : decode cJ7_copyOf_6403c 26 = .ok (.iconst 0, 1) := by decide +kernel
theorem dJ7_copyOf_6403c_27 : decode cJ7_copyOf_6403c 27 = .ok (.aload_n 3, 1) := by decide +kernel
theorem dJ7_copyOf_6403c_28 : decode cJ7_copyOf_6403c 28 = .ok (.iconst 0, 1) := by decide +kernel
theorem dJ7_copyOf_6403c_29 : decode cJ7_copyOf_6403c 29 = .ok (.aload_n 0, 1) := by decide +kernel
theorem dJ7_copyOf_6403c_30 : decode cJ7_copyOf_6403c 30 = .ok (.arraylength, 1) := by decide +kernel
theorem dJ7_copyOf_6403c_31 : decode cJ7_copyOf_6403c 31 = .ok (.iload_n 1, 1) := by decide +kernel
theorem dJ7_copyOf_6403c_32 : decode cJ7_copyOf_6403c 32 = .ok (.invokestatic 304, 3) := by decide +kernel
theorem dJ7_copyOf_6403c_35 : decode cJ7_copyOf_6403c 35 = .ok (.invokestatic 150, 3) := by decide +kernel
theorem dJ7_copyOf_6403c_38 : decode cJ7_copyOf_6403c 38 = .ok (.aload_n 3, 1) := by decide +kernel
theorem dJ7_copyOf_6403c_39 : decode cJ7_copyOf_6403c 39 = .ok (.areturn, 1) := by decide +kernel
set_option maxRecDepth 20000 in
theorem ggJ15_checkIndex_7cf53_J3_checkIndex_8e157 : GoodIn wsJ15_checkIndex_7cf53 wsJ3_checkIndex_8e157 := goodIn_r _ [4] (by decide +kernel) (by decide +kernel)
set_option maxRecDepth 20000 in
theorem gJ15_checkIndex_7cf53_J3_checkIndex_8e157 : GoodIn wsJ15_checkIndex_7cf53 (va_wsS RJ15 105 yJ3_checkIndex_8e157 wsJ3_checkIndex_8e157) := goodIn_app (goodIn_of _ (by decide +kernel)) ggJ15_checkIndex_7cf53_J3_checkIndex_8e157
theorem dJ15_checkIndex_7cf53_0 : decode cJ15_checkIndex_7cf53 0 = .ok (.iload_n 0, 1) := by decide +kernel
theorem dJ15_checkIndex_7cf53_1 : decode cJ15_checkIndex_7cf53 1 = .ok (.iload_n 1, 1) := by decide +kernel
theorem dJ15_checkIndex_7cf53_2 : decode cJ15_checkIndex_7cf53 2 = .ok (.aconst_null, 1) := by decide +kernel
theorem dJ15_checkIndex_7cf53_3 : decode cJ15_checkIndex_7cf53 3 = .ok (.invokestatic 105, 3) := by decide +kernel
theorem dJ15_checkIndex_7cf53_6 : decode cJ15_checkIndex_7cf53 6 = .ok (.ireturn, 1) := by decide +kernel
set_option maxRecDepth 20000 in
theorem ggJ8_newLength_cabcc_J8_hugeLength_7cf53 : GoodIn wsJ8_newLength_cabcc wsJ8_hugeLength_7cf53 := goodIn_r _ [9, 5] (by decide +kernel) (by decide +kernel)
set_option maxRecDepth 20000 in
theorem gJ8_newLength_cabcc_J8_hugeLength_7cf53 : GoodIn wsJ8_newLength_cabcc (va_wsS RJ8 201 yJ8_hugeLength_7cf53 wsJ8_hugeLength_7cf53) := goodIn_app (goodIn_of _ (by decide +kernel)) ggJ8_newLength_cabcc_J8_hugeLength_7cf53
theorem dJ8_newLength_cabcc_0 : decode cJ8_newLength_cabcc 0 = .ok (.iload_n 0, 1) := by decide +kernel
theorem dJ8_newLength_cabcc_1 : decode cJ8_newLength_cabcc 1 = .ok (.iload_n 1, 1) := by decide +kernel
theorem dJ8_newLength_cabcc_2 : decode cJ8_newLength_cabcc 2 = .ok (.iload_n 2, 1) := by decide +kernel
theorem dJ8_newLength_cabcc_3 : decode cJ8_newLength_cabcc 3 = .ok (.invokestatic 194, 3) := by decide +kernel
theorem dJ8_newLength_cabcc_6 : decode cJ8_newLength_cabcc 6 = .ok (.iadd, 1) := by decide +kernel
theorem dJ8_newLength_cabcc_7 : decode cJ8_newLength_cabcc 7 = .ok (.istore_n 3, 1) := by decide +kernel
theorem dJ8_newLength_cabcc_8 : decode cJ8_newLength_cabcc 8 = .ok (.iconst 0, 1) := by decide +kernel
theorem dJ8_newLength_cabcc_9 : decode cJ8_newLength_cabcc 9 = .ok (.iload_n 3, 1) := by decide +kernel
theorem dJ8_newLength_cabcc_10 : decode cJ8_newLength_cabcc 10 = .ok (.if_icmp .ge 11, 3) := by decide +kernel
end
section
theorem dJ8_newLength_cabcc_13 : decode cJ8_newLength_cabcc 13 = .ok (.iload_n 3, 1) := by decide +kernel
theorem dJ8_newLength_cabcc_14 : decode cJ8_newLength_cabcc 14 = .ok (.ldc 200, 2) := by decide +kernel
theorem dJ8_newLength_cabcc_16 : decode cJ8_newLength_cabcc 16 = .ok (.if_icmp .gt 5, 3) := by decide +kernel
theorem dJ8_newLength_cabcc_19 : decode cJ8_newLength_cabcc 19 = .ok (.iload_n 3, 1) := by decide +kernel
theorem dJ8_newLength_cabcc_20 : decode cJ8_newLength_cabcc 20 = .ok (.ireturn, 1) := by decide +kernel
theorem dJ8_newLength_cabcc_21 : decode cJ8_newLength_cabcc 21 = .ok (.iload_n 0, 1) := by decide +kernel
theorem dJ8_newLength_cabcc_22 : decode cJ8_newLength_cabcc 22 = .ok (.iload_n 1, 1) := by decide +kernel
theorem dJ8_newLength_cabcc_23 : decode cJ8_newLength_cabcc 23 = .ok (.invokestatic 201, 3) := by decide +kernel
theorem dJ8_newLength_cabcc_26 : decode cJ8_newLength_cabcc 26 = .ok (.ireturn, 1) := by decide +kernel
theorem dJ8_hugeLength_7cf53_0 : decode cJ8_hugeLength_7cf53 0 = .ok (.iload_n 0, 1) := by decide +kernel
theorem dJ8_hugeLength_7cf53_1 : decode cJ8_hugeLength_7cf53 1 = .ok (.iload_n 1, 1) := by decide +kernel
theorem dJ8_hugeLength_7cf53_2 : decode cJ8_hugeLength_7cf53 2 = .ok (.iadd, 1) := by decide +kernel
theorem dJ8_hugeLength_7cf53_3 : decode cJ8_hugeLength_7cf53 3 = .ok (.istore_n 2, 1) := by decide +kernel
theorem dJ8_hugeLength_7cf53_4 : decode cJ8_hugeLength_7cf53 4 = .ok (.iload_n 2, 1) := by decide +kernel
theorem dJ8_hugeLength_7cf53_5 : decode cJ8_hugeLength_7cf53 5 = .ok (.ifCond .ge 44, 3) := by decide +kernel
theorem dJ8_hugeLength_7cf53_8 : decode cJ8_hugeLength_7cf53 8 = .ok (.new 204, 3) := by decide +kernel
theorem dJ8_hugeLength_7cf53_11 : decode cJ8_hugeLength_7cf53 11 = .ok (.dup, 1) := by decide +kernel
theorem dJ8_hugeLength_7cf53_12 : decode cJ8_hugeLength_7cf53 12 = .ok (.new 89, 3) := by decide +kernel
theorem dJ8_hugeLength_7cf53_15 : decode cJ8_hugeLength_7cf53 15 = .ok (.dup, 1) := by decide +kernel
theorem dJ8_hugeLength_7cf53_16 : decode cJ8_hugeLength_7cf53 16 = .ok (.invokespecial 91, 3) := by decide +kernel
theorem dJ8_hugeLength_7cf53_19 : decode cJ8_hugeLength_7cf53 19 = .ok (.ldc 206, 2) := by decide +kernel
theorem dJ8_hugeLength_7cf53_21 : decode cJ8_hugeLength_7cf53 21 = .ok (.invokevirtual 94, 3) := by decide +kernel
theorem dJ8_hugeLength_7cf53_24 : decode cJ8_hugeLength_7cf53 24 = .ok (.iload_n 0, 1) := by decide +kernel
theorem dJ8_hugeLength_7cf53_25 : decode cJ8_hugeLength_7cf53 25 = .ok (.invokevirtual 98, 3) := by decide +kernel
theorem dJ8_hugeLength_7cf53_28 : decode cJ8_hugeLength_7cf53 28 = .ok (.ldc 208, 2) := by decide +kernel
theorem dJ8_hugeLength_7cf53_30 : decode cJ8_hugeLength_7cf53 30 = .ok (.invokevirtual 94, 3) := by decide +kernel
theorem dJ8_hugeLength_7cf53_33 : decode cJ8_hugeLength_7cf53 33 = .ok (.iload_n 1, 1) := by decide +kernel
theorem dJ8_hugeLength_7cf53_34 : decode cJ8_hugeLength_7cf53 34 = .ok (.invokevirtual 98, 3) := by decide +kernel
theorem dJ8_hugeLength_7cf53_37 : decode cJ8_hugeLength_7cf53 37 = .ok (.ldc 210, 2) := by decide +kernel
theorem dJ8_hugeLength_7cf53_39 : decode cJ8_hugeLength_7cf53 39 = .ok (.invokevirtual 94, 3) := by decide +kernel
theorem dJ8_hugeLength_7cf53_42 : decode cJ8_hugeLength_7cf53 42 = .ok (.invokevirtual 101, 3) := by decide +kernel
theorem dJ8_hugeLength_7cf53_45 : decode cJ8_hugeLength_7cf53 45 = .ok (.invokespecial 212, 3) := by decide +kernel
theorem dJ8_hugeLength_7cf53_48 : decode cJ8_hugeLength_7cf53 48 = .ok (.athrow, 1) := by decide +kernel
theorem dJ8_hugeLength_7cf53_49 : decode cJ8_hugeLength_7cf53 49 = .ok (.iload_n 2, 1) := by decide +kernel
theorem dJ8_hugeLength_7cf53_50 : decode cJ8_hugeLength_7cf53 50 = .ok (.ldc 200, 2) := by decide +kernel
theorem dJ8_hugeLength_7cf53_52 : decode cJ8_hugeLength_7cf53 52 = .ok (.if_icmp .gt 6, 3) := by decide +kernel
theorem dJ8_hugeLength_7cf53_55 : decode cJ8_hugeLength_7cf53 55 = .ok (.ldc 200, 2) := by decide +kernel
theorem dJ8_hugeLength_7cf53_57 : decode cJ8_hugeLength_7cf53 57 = .ok (.ireturn, 1) := by decide +kernel
theorem dJ8_hugeLength_7cf53_58 : decode cJ8_hugeLength_7cf53 58 = .ok (.iload_n 2, 1) := by decide +kernel
theorem dJ8_hugeLength_7cf53_59 : decode cJ8_hugeLength_7cf53 59 = .ok (.ireturn, 1) := by decide +kernel
theorem dJ3_checkIndex_8e157_0 : decode cJ3_checkIndex_8e157 0 = .ok (.iload_n 0, 1) := by decide +kernel
theorem dJ3_checkIndex_8e157_1 : decode cJ3_checkIndex_8e157 1 = .ok (.ifCond .lt 8, 3) := by decide +kernel
theorem dJ3_checkIndex_8e157_4 : decode cJ3_checkIndex_8e157 4 = .ok (.iload_n 0, 1) := by decide +kernel
theorem dJ3_checkIndex_8e157_5 : decode cJ3_checkIndex_8e157 5 = .ok (.iload_n 1, 1) := by decide +kernel
theorem dJ3_checkIndex_8e157_6 : decode cJ3_checkIndex_8e157 6 = .ok (.if_icmp .lt 10, 3) := by decide +kernel
theorem dJ3_checkIndex_8e157_9 : decode cJ3_checkIndex_8e157 9 = .ok (.aload_n 2, 1) := by decide +kernel
theorem dJ3_checkIndex_8e157_10 : decode cJ3_checkIndex_8e157 10 = .ok (.iload_n 0, 1) := by decide +kernel
theorem dJ3_checkIndex_8e157_11 : decode cJ3_checkIndex_8e157 11 = .ok (.iload_n 1, 1) := by decide +kernel
theorem dJ3_checkIndex_8e157_12 : decode cJ3_checkIndex_8e157 12 = .ok (.invokestatic 95, 3) := by decide +kernel
theorem dJ3_checkIndex_8e157_15 : decode cJ3_checkIndex_8e157 15 = .ok (.athrow, 1) := by decide +kernel
theorem dJ3_checkIndex_8e157_16 : decode cJ3_checkIndex_8e157 16 = .ok (.iload_n 0, 1) := by decide +kernel
theorem dJ3_checkIndex_8e157_17 : decode cJ3_checkIndex_8e157 17 = .ok (.ireturn, 1) := by decide +kernel
theorem dL_below_0 : decode cL_below 0 = .ok (.iload_n 0, 1) := by decide +kernel
theorem dL_below_1 : decode cL_below 1 = .ok (.ldc 7, 2) := by decide +kernel
theorem dL_below_3 : decode cL_below 3 = .ok (.iand, 1) := by decide +kernel
theorem dL_below_4 : decode cL_below 4 = .ok (.iload_n 1, 1) := by decide +kernel
theorem dL_below_5 : decode cL_below 5 = .ok (.irem, 1) := by decide +kernel
theorem dL_below_6 : decode cL_below 6 = .ok (.ireturn, 1) := by decide +kernel
theorem dL_cell_0 : decode cL_cell 0 = .ok (.iload_n 1, 1) := by decide +kernel
theorem dL_cell_1 : decode cL_cell 1 = .ok (.aload_n 0, 1) := by decide +kernel
theorem dL_cell_2 : decode cL_cell 2 = .ok (.arraylength, 1) := by decide +kernel
theorem dL_cell_3 : decode cL_cell 3 = .ok (.if_icmp .ge 9, 3) := by decide +kernel
theorem dL_cell_6 : decode cL_cell 6 = .ok (.aload_n 0, 1) := by decide +kernel
theorem dL_cell_7 : decode cL_cell 7 = .ok (.iload_n 1, 1) := by decide +kernel
theorem dL_cell_8 : decode cL_cell 8 = .ok (.iaload, 1) := by decide +kernel
theorem dL_cell_9 : decode cL_cell 9 = .ok (.goto 9, 3) := by decide +kernel
theorem dL_cell_12 : decode cL_cell 12 = .ok (.ldc 8, 2) := by decide +kernel
theorem dL_cell_14 : decode cL_cell 14 = .ok (.iload_n 1, 1) := by decide +kernel
theorem dL_cell_15 : decode cL_cell 15 = .ok (.iconst 3, 1) := by decide +kernel
theorem dL_cell_16 : decode cL_cell 16 = .ok (.iadd, 1) := by decide +kernel
theorem dL_cell_17 : decode cL_cell 17 = .ok (.imul, 1) := by decide +kernel
theorem dL_cell_18 : decode cL_cell 18 = .ok (.ireturn, 1) := by decide +kernel
set_option maxRecDepth 20000 in
theorem ggL_drawn_L_cell : GoodIn wsL_drawn wsL_cell := goodIn_r _ [4, 5] (by decide +kernel) (by decide +kernel)
set_option maxRecDepth 20000 in
theorem gL_drawn_L_cell : GoodIn wsL_drawn (va_wsS RL 9 yL_cell wsL_cell) := goodIn_app (goodIn_of _ (by decide +kernel)) ggL_drawn_L_cell
set_option maxRecDepth 20000 in
theorem ggL_drawn_L_below : GoodIn wsL_drawn wsL_below := goodIn_r _ [8, 9] (by decide +kernel) (by decide +kernel)
set_option maxRecDepth 20000 in
theorem gL_drawn_L_below : GoodIn wsL_drawn (va_wsS RL 15 yL_below wsL_below) := goodIn_app (goodIn_of _ (by decide +kernel)) ggL_drawn_L_below
theorem dL_drawn_0 : decode cL_drawn 0 = .ok (.aload_n 0, 1) := by decide +kernel
theorem dL_drawn_1 : decode cL_drawn 1 = .ok (.iload_n 1, 1) := by decide +kernel
theorem dL_drawn_2 : decode cL_drawn 2 = .ok (.bipush 24, 2) := by decide +kernel
theorem dL_drawn_4 : decode cL_drawn 4 = .ok (.irem, 1) := by decide +kernel
theorem dL_drawn_5 : decode cL_drawn 5 = .ok (.invokestatic 9, 3) := by decide +kernel
theorem dL_drawn_8 : decode cL_drawn 8 = .ok (.iload_n 1, 1) := by decide +kernel
theorem dL_drawn_9 : decode cL_drawn 9 = .ok (.bipush 24, 2) := by decide +kernel
theorem dL_drawn_11 : decode cL_drawn 11 = .ok (.idiv, 1) := by decide +kernel
theorem dL_drawn_12 : decode cL_drawn 12 = .ok (.bipush 8, 2) := by decide +kernel
theorem dL_drawn_14 : decode cL_drawn 14 = .ok (.irem, 1) := by decide +kernel
theorem dL_drawn_15 : decode cL_drawn 15 = .ok (.ishr, 1) := by decide +kernel
theorem dL_drawn_16 : decode cL_drawn 16 = .ok (.sipush 571, 3) := by decide +kernel
theorem dL_drawn_19 : decode cL_drawn 19 = .ok (.iload_n 1, 1) := by decide +kernel
theorem dL_drawn_20 : decode cL_drawn 20 = .ok (.imul, 1) := by decide +kernel
theorem dL_drawn_21 : decode cL_drawn 21 = .ok (.iadd, 1) := by decide +kernel
theorem dL_drawn_22 : decode cL_drawn 22 = .ok (.iload_n 2, 1) := by decide +kernel
theorem dL_drawn_23 : decode cL_drawn 23 = .ok (.invokestatic 15, 3) := by decide +kernel
theorem dL_drawn_26 : decode cL_drawn 26 = .ok (.ireturn, 1) := by decide +kernel
set_option maxRecDepth 20000 in
theorem ggL_isIn_L_rank : GoodIn wsL_isIn wsL_rank := goodIn_r _ [4, 5, 6, 7, 8, 9, 10, 11, 12, 13, 14, 15, 16, 17, 18, 19, 20, 21, 22, 23, 24, 25, 26, 27, 28, 29, 30, 31, 32, 33, 34, 35, 36, 37, 38, 39, 40, 41, 42, 43, 44, 45] (by decide +kernel) (by decide +kernel)
set_option maxRecDepth 20000 in
theorem gL_isIn_L_rank : GoodIn wsL_isIn (va_wsS RL 19 yL_rank wsL_rank) := goodIn_app (goodIn_of _ (by decide +kernel)) ggL_isIn_L_rank
theorem dL_isIn_0 : decode cL_isIn 0 = .ok (.aload_n 0, 1) := by decide +kernel
theorem dL_isIn_1 : decode cL_isIn 1 = .ok (.iconst (-1), 1) := by decide +kernel
theorem dL_isIn_2 : decode cL_isIn 2 = .ok (.invokestatic 19, 3) := by decide +kernel
theorem dL_isIn_5 : decode cL_isIn 5 = .ok (.aload_n 0, 1) := by decide +kernel
theorem dL_isIn_6 : decode cL_isIn 6 = .ok (.iload_n 1, 1) := by decide +kernel
theorem dL_isIn_7 : decode cL_isIn 7 = .ok (.invokestatic 19, 3) := by decide +kernel
theorem dL_isIn_10 : decode cL_isIn 10 = .ok (.if_icmp .ne 7, 3) := by decide +kernel
theorem dL_isIn_13 : decode cL_isIn 13 = .ok (.iconst 1, 1) := by decide +kernel
theorem dL_isIn_14 : decode cL_isIn 14 = .ok (.goto 4, 3) := by decide +kernel
theorem dL_isIn_17 : decode cL_isIn 17 = .ok (.iconst 0, 1) := by decide +kernel
theorem dL_isIn_18 : decode cL_isIn 18 = .ok (.ireturn, 1) := by decide +kernel
set_option maxRecDepth 20000 in
theorem ggL_rank_Jx4a65c_size_8abf5 : GoodIn wsL_rank wsJx4a65c_size_8abf5 := goodIn_r _ [9, 10, 38, 39, 40] (by decide +kernel) (by decide +kernel)
set_option maxRecDepth 20000 in
theorem gL_rank_Jx4a65c_size_8abf5_f23Jx4a65c : GoodIn wsL_rank (va_wsF RL 23 RJx4a65c ⟨"java/util/List", "size", "()I"⟩ yJx4a65c_size_8abf5 wsJx4a65c_size_8abf5) := goodIn_app (goodIn_of _ (by decide +kernel)) ggL_rank_Jx4a65c_size_8abf5
set_option maxRecDepth 20000 in
theorem ggL_rank_Jx4a65c_get_915e3 : GoodIn wsL_rank wsJx4a65c_get_915e3 := goodIn_r _ [14, 10, 15, 16, 17, 18, 19, 20, 21, 22, 23, 24, 25, 8, 26, 27, 38, 39, 40] (by decide +kernel) (by decide +kernel)
set_option maxRecDepth 20000 in
theorem gL_rank_Jx4a65c_get_915e3_f31Jx4a65c : GoodIn wsL_rank (va_wsF RL 31 RJx4a65c ⟨"java/util/List", "get", "(I)Ljava/lang/Object;"⟩ yJx4a65c_get_915e3 wsJx4a65c_get_915e3) := goodIn_app (goodIn_of _ (by decide +kernel)) ggL_rank_Jx4a65c_get_915e3
set_option maxRecDepth 20000 in
theorem ggL_rank_J6_intValue_8abf5 : GoodIn wsL_rank wsJ6_intValue_8abf5 := goodIn_r _ [32, 33, 41] (by decide +kernel) (by decide +kernel)
set_option maxRecDepth 20000 in
theorem gL_rank_J6_intValue_8abf5 : GoodIn wsL_rank (wsV RL 37 RJ6 yJ6_intValue_8abf5 wsJ6_intValue_8abf5) := goodIn_app (goodIn_of _ (by decide +kernel)) ggL_rank_J6_intValue_8abf5
set_option maxRecDepth 20000 in
theorem ggL_rank_J9_floorMod_f86c9 : GoodIn wsL_rank wsJ9_floorMod_f86c9 := goodIn_r _ [37] (by decide +kernel) (by decide +kernel)
set_option maxRecDepth 20000 in
theorem gL_rank_J9_floorMod_f86c9 : GoodIn wsL_rank (va_wsS RL 42 yJ9_floorMod_f86c9 wsJ9_floorMod_f86c9) := goodIn_app (goodIn_of _ (by decide +kernel)) ggL_rank_J9_floorMod_f86c9
theorem dL_rank_0 : decode cL_rank 0 = .ok (.aload_n 0, 1) := by decide +kernel
theorem dL_rank_1 : decode cL_rank 1 = .ok (.invokeinterface 23 1, 5) := by decide +kernel
theorem dL_rank_6 : decode cL_rank 6 = .ok (.iload_n 1, 1) := by decide +kernel
theorem dL_rank_7 : decode cL_rank 7 = .ok (.ifCond .ge 7, 3) := by decide +kernel
theorem dL_rank_10 : decode cL_rank 10 = .ok (.iconst 0, 1) := by decide +kernel
theorem dL_rank_11 : decode cL_rank 11 = .ok (.goto 4, 3) := by decide +kernel
theorem dL_rank_14 : decode cL_rank 14 = .ok (.iconst 1, 1) := by decide +kernel
theorem dL_rank_15 : decode cL_rank 15 = .ok (.iadd, 1) := by decide +kernel
theorem dL_rank_16 : decode cL_rank 16 = .ok (.istore_n 2, 1) := by decide +kernel
theorem dL_rank_17 : decode cL_rank 17 = .ok (.iload_n 2, 1) := by decide +kernel
theorem dL_rank_18 : decode cL_rank 18 = .ok (.bipush 8, 2) := by decide +kernel
theorem dL_rank_20 : decode cL_rank 20 = .ok (.multianewarray 29 2, 4) := by decide +kernel
theorem dL_rank_24 : decode cL_rank 24 = .ok (.astore_n 3, 1) := by decide +kernel
theorem dL_rank_25 : decode cL_rank 25 = .ok (.iconst 0, 1) := by decide +kernel
theorem dL_rank_26 : decode cL_rank 26 = .ok (.istore 4, 2) := by decide +kernel
theorem dL_rank_28 : decode cL_rank 28 = .ok (.iload 4, 2) := by decide +kernel
theorem dL_rank_30 : decode cL_rank 30 = .ok (.iload_n 2, 1) := by decide +kernel
theorem dL_rank_31 : decode cL_rank 31 = .ok (.if_icmp .ge 67, 3) := by decide +kernel
theorem dL_rank_34 : decode cL_rank 34 = .ok (.iconst 0, 1) := by decide +kernel
theorem dL_rank_35 : decode cL_rank 35 = .ok (.istore 5, 2) := by decide +kernel
theorem dL_rank_37 : decode cL_rank 37 = .ok (.iload 5, 2) := by decide +kernel
theorem dL_rank_39 : decode cL_rank 39 = .ok (.bipush 8, 2) := by decide +kernel
theorem dL_rank_41 : decode cL_rank 41 = .ok (.if_icmp .ge 51, 3) := by decide +kernel
theorem dL_rank_44 : decode cL_rank 44 = .ok (.aload_n 3, 1) := by decide +kernel
theorem dL_rank_45 : decode cL_rank 45 = .ok (.iload 4, 2) := by decide +kernel
theorem dL_rank_47 : decode cL_rank 47 = .ok (.aaload, 1) := by decide +kernel
theorem dL_rank_48 : decode cL_rank 48 = .ok (.iload 5, 2) := by decide +kernel
theorem dL_rank_50 : decode cL_rank 50 = .ok (.iload 4, 2) := by decide +kernel
theorem dL_rank_52 : decode cL_rank 52 = .ok (.aload_n 0, 1) := by decide +kernel
theorem dL_rank_53 : decode cL_rank 53 = .ok (.invokeinterface 23 1, 5) := by decide +kernel
theorem dL_rank_58 : decode cL_rank 58 = .ok (.if_icmp .ge 20, 3) := by decide +kernel
theorem dL_rank_61 : decode cL_rank 61 = .ok (.aload_n 0, 1) := by decide +kernel
theorem dL_rank_62 : decode cL_rank 62 = .ok (.iload 4, 2) := by decide +kernel
theorem dL_rank_64 : decode cL_rank 64 = .ok (.invokeinterface 31 2, 5) := by decide +kernel
theorem dL_rank_69 : decode cL_rank 69 = .ok (.checkcast 35, 3) := by decide +kernel
theorem dL_rank_72 : decode cL_rank 72 = .ok (.invokevirtual 37, 3) := by decide +kernel
theorem dL_rank_75 : decode cL_rank 75 = .ok (.goto 4, 3) := by decide +kernel
theorem dL_rank_78 : decode cL_rank 78 = .ok (.iload_n 1, 1) := by decide +kernel
theorem dL_rank_79 : decode cL_rank 79 = .ok (.iload 5, 2) := by decide +kernel
theorem dL_rank_81 : decode cL_rank 81 = .ok (.ishr, 1) := by decide +kernel
theorem dL_rank_82 : decode cL_rank 82 = .ok (.iconst 1, 1) := by decide +kernel
theorem dL_rank_83 : decode cL_rank 83 = .ok (.iand, 1) := by decide +kernel
theorem dL_rank_84 : decode cL_rank 84 = .ok (.i2l, 1) := by decide +kernel
theorem dL_rank_85 : decode cL_rank 85 = .ok (.lastore, 1) := by decide +kernel
theorem dL_rank_86 : decode cL_rank 86 = .ok (.iinc 5 1, 3) := by decide +kernel
theorem dL_rank_89 : decode cL_rank 89 = .ok (.goto (-52), 3) := by decide +kernel
theorem dL_rank_92 : decode cL_rank 92 = .ok (.iinc 4 1, 3) := by decide +kernel
theorem dL_rank_95 : decode cL_rank 95 = .ok (.goto (-67), 3) := by decide +kernel
theorem dL_rank_98 : decode cL_rank 98 = .ok (.iconst 0, 1) := by decide +kernel
theorem dL_rank_99 : decode cL_rank 99 = .ok (.istore 4, 2) := by decide +kernel
theorem dL_rank_101 : decode cL_rank 101 = .ok (.iconst 0, 1) := by decide +kernel
theorem dL_rank_102 : decode cL_rank 102 = .ok (.istore 5, 2) := by decide +kernel
theorem dL_rank_104 : decode cL_rank 104 = .ok (.iload 5, 2) := by decide +kernel
theorem dL_rank_106 : decode cL_rank 106 = .ok (.bipush 8, 2) := by decide +kernel
theorem dL_rank_108 : decode cL_rank 108 = .ok (.if_icmp .ge 151, 3) := by decide +kernel
theorem dL_rank_111 : decode cL_rank 111 = .ok (.iload 4, 2) := by decide +kernel
theorem dL_rank_113 : decode cL_rank 113 = .ok (.istore 6, 2) := by decide +kernel
theorem dL_rank_115 : decode cL_rank 115 = .ok (.iload 6, 2) := by decide +kernel
theorem dL_rank_117 : decode cL_rank 117 = .ok (.iload_n 2, 1) := by decide +kernel
theorem dL_rank_118 : decode cL_rank 118 = .ok (.if_icmp .ge 21, 3) := by decide +kernel
theorem dL_rank_121 : decode cL_rank 121 = .ok (.aload_n 3, 1) := by decide +kernel
theorem dL_rank_122 : decode cL_rank 122 = .ok (.iload 6, 2) := by decide +kernel
theorem dL_rank_124 : decode cL_rank 124 = .ok (.aaload, 1) := by decide +kernel
theorem dL_rank_125 : decode cL_rank 125 = .ok (.iload 5, 2) := by decide +kernel
theorem dL_rank_127 : decode cL_rank 127 = .ok (.laload, 1) := by decide +kernel
theorem dL_rank_128 : decode cL_rank 128 = .ok (.lconst 0, 1) := by decide +kernel
theorem dL_rank_129 : decode cL_rank 129 = .ok (.lcmp, 1) := by decide +kernel
theorem dL_rank_130 : decode cL_rank 130 = .ok (.ifCond .ne 9, 3) := by decide +kernel
theorem dL_rank_133 : decode cL_rank 133 = .ok (.iinc 6 1, 3) := by decide +kernel
theorem dL_rank_136 : decode cL_rank 136 = .ok (.goto (-21), 3) := by decide +kernel
theorem dL_rank_139 : decode cL_rank 139 = .ok (.iload 6, 2) := by decide +kernel
theorem dL_rank_141 : decode cL_rank 141 = .ok (.iload_n 2, 1) := by decide +kernel
theorem dL_rank_142 : decode cL_rank 142 = .ok (.if_icmp .ne 6, 3) := by decide +kernel
theorem dL_rank_145 : decode cL_rank 145 = .ok (.goto 108, 3) := by decide +kernel
theorem dL_rank_148 : decode cL_rank 148 = .ok (.aload_n 3, 1) := by decide +kernel
theorem dL_rank_149 : decode cL_rank 149 = .ok (.iload 6, 2) := by decide +kernel
theorem dL_rank_151 : decode cL_rank 151 = .ok (.aaload, 1) := by decide +kernel
theorem dL_rank_152 : decode cL_rank 152 = .ok (.astore 7, 2) := by decide +kernel
theorem dL_rank_154 : decode cL_rank 154 = .ok (.aload_n 3, 1) := by decide +kernel
theorem dL_rank_155 : decode cL_rank 155 = .ok (.iload 6, 2) := by decide +kernel
theorem dL_rank_157 : decode cL_rank 157 = .ok (.aload_n 3, 1) := by decide +kernel
theorem dL_rank_158 : decode cL_rank 158 = .ok (.iload 4, 2) := by decide +kernel
theorem dL_rank_160 : decode cL_rank 160 = .ok (.aaload, 1) := by decide +kernel
theorem dL_rank_161 : decode cL_rank 161 = .ok (.aastore, 1) := by decide +kernel
theorem dL_rank_162 : decode cL_rank 162 = .ok (.aload_n 3, 1) := by decide +kernel
theorem dL_rank_163 : decode cL_rank 163 = .ok (.iload 4, 2) := by decide +kernel
theorem dL_rank_165 : decode cL_rank 165 = .ok (.aload 7, 2) := by decide +kernel
theorem dL_rank_167 : decode cL_rank 167 = .ok (.aastore, 1) := by decide +kernel
theorem dL_rank_168 : decode cL_rank 168 = .ok (.iload 4, 2) := by decide +kernel
theorem dL_rank_170 : decode cL_rank 170 = .ok (.iconst 1, 1) := by decide +kernel
theorem dL_rank_171 : decode cL_rank 171 = .ok (.iadd, 1) := by decide +kernel
theorem dL_rank_172 : decode cL_rank 172 = .ok (.istore 8, 2) := by decide +kernel
theorem dL_rank_174 : decode cL_rank 174 = .ok (.iload 8, 2) := by decide +kernel
theorem dL_rank_176 : decode cL_rank 176 = .ok (.iload_n 2, 1) := by decide +kernel
theorem dL_rank_177 : decode cL_rank 177 = .ok (.if_icmp .ge 73, 3) := by decide +kernel
theorem dL_rank_180 : decode cL_rank 180 = .ok (.aload_n 3, 1) := by decide +kernel
theorem dL_rank_181 : decode cL_rank 181 = .ok (.iload 8, 2) := by decide +kernel
theorem dL_rank_183 : decode cL_rank 183 = .ok (.aaload, 1) := by decide +kernel
theorem dL_rank_184 : decode cL_rank 184 = .ok (.iload 5, 2) := by decide +kernel
theorem dL_rank_186 : decode cL_rank 186 = .ok (.laload, 1) := by decide +kernel
theorem dL_rank_187 : decode cL_rank 187 = .ok (.lstore 9, 2) := by decide +kernel
theorem dL_rank_189 : decode cL_rank 189 = .ok (.aload 7, 2) := by decide +kernel
theorem dL_rank_191 : decode cL_rank 191 = .ok (.iload 5, 2) := by decide +kernel
theorem dL_rank_193 : decode cL_rank 193 = .ok (.laload, 1) := by decide +kernel
theorem dL_rank_194 : decode cL_rank 194 = .ok (.lstore 11, 2) := by decide +kernel
theorem dL_rank_196 : decode cL_rank 196 = .ok (.iconst 0, 1) := by decide +kernel
theorem dL_rank_197 : decode cL_rank 197 = .ok (.istore 13, 2) := by decide +kernel
theorem dL_rank_199 : decode cL_rank 199 = .ok (.iload 13, 2) := by decide +kernel
theorem dL_rank_201 : decode cL_rank 201 = .ok (.bipush 8, 2) := by decide +kernel
theorem dL_rank_203 : decode cL_rank 203 = .ok (.if_icmp .ge 41, 3) := by decide +kernel
theorem dL_rank_206 : decode cL_rank 206 = .ok (.aload_n 3, 1) := by decide +kernel
theorem dL_rank_207 : decode cL_rank 207 = .ok (.iload 8, 2) := by decide +kernel
theorem dL_rank_209 : decode cL_rank 209 = .ok (.aaload, 1) := by decide +kernel
theorem dL_rank_210 : decode cL_rank 210 = .ok (.iload 13, 2) := by decide +kernel
theorem dL_rank_212 : decode cL_rank 212 = .ok (.aload_n 3, 1) := by decide +kernel
theorem dL_rank_213 : decode cL_rank 213 = .ok (.iload 8, 2) := by decide +kernel
theorem dL_rank_215 : decode cL_rank 215 = .ok (.aaload, 1) := by decide +kernel
theorem dL_rank_216 : decode cL_rank 216 = .ok (.iload 13, 2) := by decide +kernel
theorem dL_rank_218 : decode cL_rank 218 = .ok (.laload, 1) := by decide +kernel
theorem dL_rank_219 : decode cL_rank 219 = .ok (.lload 11, 2) := by decide +kernel
theorem dL_rank_221 : decode cL_rank 221 = .ok (.lmul, 1) := by decide +kernel
theorem dL_rank_222 : decode cL_rank 222 = .ok (.aload 7, 2) := by decide +kernel
theorem dL_rank_224 : decode cL_rank 224 = .ok (.iload 13, 2) := by decide +kernel
theorem dL_rank_226 : decode cL_rank 226 = .ok (.laload, 1) := by decide +kernel
theorem dL_rank_227 : decode cL_rank 227 = .ok (.lload 9, 2) := by decide +kernel
theorem dL_rank_229 : decode cL_rank 229 = .ok (.lmul, 1) := by decide +kernel
theorem dL_rank_230 : decode cL_rank 230 = .ok (.lsub, 1) := by decide +kernel
theorem dL_rank_231 : decode cL_rank 231 = .ok (.ldc2_w 40, 3) := by decide +kernel
theorem dL_rank_234 : decode cL_rank 234 = .ok (.invokestatic 42, 3) := by decide +kernel
theorem dL_rank_237 : decode cL_rank 237 = .ok (.lastore, 1) := by decide +kernel
theorem dL_rank_238 : decode cL_rank 238 = .ok (.iinc 13 1, 3) := by decide +kernel
theorem dL_rank_241 : decode cL_rank 241 = .ok (.goto (-42), 3) := by decide +kernel
theorem dL_rank_244 : decode cL_rank 244 = .ok (.iinc 8 1, 3) := by decide +kernel
theorem dL_rank_247 : decode cL_rank 247 = .ok (.goto (-73), 3) := by decide +kernel
theorem dL_rank_250 : decode cL_rank 250 = .ok (.iinc 4 1, 3) := by decide +kernel
theorem dL_rank_253 : decode cL_rank 253 = .ok (.iinc 5 1, 3) := by decide +kernel
theorem dL_rank_256 : decode cL_rank 256 = .ok (.goto (-152), 3) := by decide +kernel
theorem dL_rank_259 : decode cL_rank 259 = .ok (.iload 4, 2) := by decide +kernel
theorem dL_rank_261 : decode cL_rank 261 = .ok (.ireturn, 1) := by decide +kernel
set_option maxRecDepth 20000 in
theorem ggL_law_X6_init : GoodIn wsL_law wsX6_init := goodIn_r _ [10, 11, 12, 13, 14, 15, 16, 17, 18, 19, 20, 21, 22, 23, 24, 25, 26, 27, 28, 29, 30, 31, 32, 33, 34, 35, 36, 3, 37, 38, 39, 40, 41, 42, 43, 44, 45, 46, 47, 48, 49, 50, 51, 52, 53, 54, 55, 56, 57, 58, 59, 60, 61, 62, 63, 64, 65, 66, 67, 68, 69, 70, 71, 72, 73, 74, 626, 627, 628, 629, 618, 619, 620, 621, 622, 630, 631, 632, 633, 634, 635, 636, 637, 638, 639, 640, 641, 642, 643, 644, 645, 646, 647, 648, 649, 650, 651, 652, 653] (by decide +kernel) (by decide +kernel)
set_option maxRecDepth 20000 in
theorem gL_law_X6_init : GoodIn wsL_law (wsX6_init) := ggL_law_X6_init
set_option maxRecDepth 20000 in
theorem ggL_law_X6_source : GoodIn wsL_law wsX6_source := goodIn_ca (goodIn_r _ [78, 79, 80, 17, 81, 82, 83, 16, 84, 85, 86, 87, 88, 89, 618, 619, 620, 621, 622, 626, 627, 628, 629] (by decide +kernel) (by decide +kernel)) (goodIn_sub (fun _ h => List.mem_append_left _ (List.mem_append_left _ (List.mem_append_right _ h))) (by decide +kernel))
set_option maxRecDepth 20000 in
theorem gL_law_X6_source : GoodIn wsL_law (wsV RL 51 RX6 yX6_source wsX6_source) := goodIn_app (goodIn_of _ (by decide +kernel)) ggL_law_X6_source
set_option maxRecDepth 20000 in
theorem ggL_law_L_drawn : GoodIn wsL_law wsL_drawn := goodIn_r _ [93, 94, 95, 92, 96, 97, 98, 99, 100, 101] (by decide +kernel) (by decide +kernel)
set_option maxRecDepth 20000 in
theorem gL_law_L_drawn : GoodIn wsL_law (va_wsS RL 54 yL_drawn wsL_drawn) := goodIn_app (goodIn_of _ (by decide +kernel)) ggL_law_L_drawn
set_option maxRecDepth 20000 in
theorem ggL_law_X6_person : GoodIn wsL_law wsX6_person := goodIn_ca (goodIn_ca (goodIn_r _ [105, 106, 107, 79, 80, 29, 108, 109, 110, 28, 111, 112, 113, 114, 115, 116, 58, 618, 619, 620, 621, 622, 641, 642, 643, 644, 645, 646, 647, 648, 649] (by decide +kernel) (by decide +kernel)) (goodIn_sub (fun _ h => List.mem_append_left _ (List.mem_append_right _ h)) (by decide +kernel))) (goodIn_sub (fun _ h => List.mem_append_left _ (List.mem_append_left _ (List.mem_append_right _ h))) (by decide +kernel))
set_option maxRecDepth 20000 in
theorem gL_law_X6_person : GoodIn wsL_law (wsV RL 58 RX6 yX6_person wsX6_person) := goodIn_app (goodIn_of _ (by decide +kernel)) ggL_law_X6_person
set_option maxRecDepth 20000 in
theorem ggL_law_X6_asker : GoodIn wsL_law wsX6_asker := goodIn_ca (goodIn_r _ [120, 79, 80, 29, 121, 122, 123, 28, 124, 125, 126, 127, 128, 129, 618, 619, 620, 621, 622, 641, 642, 643, 644, 645, 646, 647, 648, 649] (by decide +kernel) (by decide +kernel)) (goodIn_sub (fun _ h => List.mem_append_left _ (List.mem_append_left _ (List.mem_append_right _ h))) (by decide +kernel))
set_option maxRecDepth 20000 in
theorem gL_law_X6_asker : GoodIn wsL_law (wsV RL 62 RX6 yX6_asker wsX6_asker) := goodIn_app (goodIn_of _ (by decide +kernel)) ggL_law_X6_asker
set_option maxRecDepth 20000 in
theorem ggL_law_Jx4a65c_init_da8c8 : GoodIn wsL_law wsJx4a65c_init_da8c8 := goodIn_r _ [132, 133, 134, 135, 136, 137, 138, 139, 140, 141, 142, 143, 144, 12, 13, 623, 624, 625] (by decide +kernel) (by decide +kernel)
set_option maxRecDepth 20000 in
theorem gL_law_Jx4a65c_init_da8c8 : GoodIn wsL_law (wsJx4a65c_init_da8c8) := ggL_law_Jx4a65c_init_da8c8
set_option maxRecDepth 20000 in
theorem ggL_law_X6_kin : GoodIn wsL_law wsX6_kin := goodIn_ca (goodIn_ca (goodIn_r _ [148, 106, 107, 17, 149, 150, 151, 2, 152, 153, 154, 155, 156, 157, 16, 158, 85, 159, 160, 161, 162, 36, 163, 164, 165, 35, 166, 42, 167, 168, 169, 170, 171, 172, 173, 174, 37, 38, 175, 176, 177, 178, 179, 180, 181, 182, 183, 184, 185, 186, 187, 188, 25, 21, 189, 190, 191, 24, 192, 193, 194, 195, 196, 197, 198, 199, 200, 201, 202, 203, 52, 204, 205, 206, 207, 208, 209, 210, 211, 212, 213, 214, 215, 54, 216, 217, 218, 219, 50, 51, 220, 221, 222, 223, 224, 225, 82, 83, 84, 226, 227, 228, 229, 230, 231, 232, 233, 20, 234, 235, 46, 236, 237, 238, 239, 240, 241, 242, 243, 244, 245, 618, 619, 620, 621, 622, 626, 627, 628, 629, 650, 633, 634, 635, 636, 637, 638, 639, 640, 630, 631, 632] (by decide +kernel) (by decide +kernel)) (goodIn_sub (fun _ h => List.mem_append_left _ (List.mem_append_right _ h)) (by decide +kernel))) (goodIn_sub (fun _ h => List.mem_append_right _ h) (by decide +kernel))
set_option maxRecDepth 20000 in
theorem gL_law_X6_kin : GoodIn wsL_law (wsV RL 70 RX6 yX6_kin wsX6_kin) := goodIn_app (goodIn_of _ (by decide +kernel)) ggL_law_X6_kin
set_option maxRecDepth 20000 in
theorem ggL_law_X6_bar : GoodIn wsL_law wsX6_bar := goodIn_ca (goodIn_r _ [249, 106, 107, 17, 250, 251, 252, 16, 253, 38, 171, 172, 173, 174, 37, 36, 175, 176, 177, 35, 178, 179, 180, 181, 182, 42, 183, 2, 184, 185, 186, 187, 188, 25, 21, 189, 190, 191, 24, 192, 193, 194, 195, 196, 197, 198, 199, 200, 201, 202, 203, 52, 204, 205, 206, 207, 208, 209, 210, 211, 212, 213, 214, 215, 54, 216, 217, 218, 219, 50, 51, 220, 221, 222, 223, 224, 164, 165, 166, 225, 82, 83, 84, 85, 226, 227, 228, 229, 230, 231, 232, 233, 20, 234, 235, 46, 236, 237, 238, 239, 240, 241, 242, 243, 244, 245, 618, 619, 620, 621, 622, 626, 627, 628, 629, 650, 633, 634, 635, 636, 637, 638, 639, 640, 630, 631, 632] (by decide +kernel) (by decide +kernel)) (goodIn_sub (fun _ h => List.mem_append_left _ (List.mem_append_right _ h)) (by decide +kernel))
set_option maxRecDepth 20000 in
theorem gL_law_X6_bar : GoodIn wsL_law (wsV RL 74 RX6 yX6_bar wsX6_bar) := goodIn_app (goodIn_of _ (by decide +kernel)) ggL_law_X6_bar
set_option maxRecDepth 20000 in
theorem ggL_law_X6_wouldJoin : GoodIn wsL_law wsX6_wouldJoin := goodIn_ca (goodIn_r _ [257, 17, 258, 259, 260, 2, 261, 153, 154, 21, 155, 156, 157, 16, 158, 85, 262, 263, 264, 20, 265, 235, 266, 267, 268, 269, 236, 183, 184, 270, 271, 272, 273, 46, 274, 243, 244, 245, 37, 618, 619, 620, 621, 622, 626, 627, 628, 629, 630, 631, 632] (by decide +kernel) (by decide +kernel)) (goodIn_sub (fun _ h => List.mem_append_right _ h) (by decide +kernel))
set_option maxRecDepth 20000 in
theorem gL_law_X6_wouldJoin : GoodIn wsL_law (wsV RL 77 RX6 yX6_wouldJoin wsX6_wouldJoin) := goodIn_app (goodIn_of _ (by decide +kernel)) ggL_law_X6_wouldJoin
set_option maxRecDepth 20000 in
theorem ggL_law_X6_join : GoodIn wsL_law wsX6_join := goodIn_ca (goodIn_ca (goodIn_r _ [278, 79, 80, 17, 21, 258, 259, 260, 2, 261, 153, 154, 155, 156, 157, 16, 158, 85, 262, 263, 264, 20, 265, 235, 266, 267, 268, 269, 236, 183, 184, 270, 271, 272, 273, 46, 274, 243, 244, 245, 37, 279, 280, 281, 282, 283, 284, 285, 286, 618, 619, 620, 621, 622, 626, 627, 628, 629, 630, 631, 632] (by decide +kernel) (by decide +kernel)) (goodIn_sub (fun _ h => List.mem_append_left _ (List.mem_append_left _ (List.mem_append_right _ h))) (by decide +kernel))) (goodIn_sub (fun _ h => List.mem_append_right _ h) (by decide +kernel))
set_option maxRecDepth 20000 in
theorem gL_law_X6_join : GoodIn wsL_law (wsV RL 80 RX6 yX6_join wsX6_join) := goodIn_app (goodIn_of _ (by decide +kernel)) ggL_law_X6_join
set_option maxRecDepth 20000 in
theorem ggL_law_X6_permit : GoodIn wsL_law wsX6_permit := goodIn_ca (goodIn_ca (goodIn_ca (goodIn_r _ [290, 106, 107, 79, 80, 25, 17, 149, 150, 151, 2, 152, 153, 154, 155, 156, 157, 16, 158, 85, 291, 292, 293, 24, 294, 198, 295, 296, 297, 298, 50, 299, 300, 301, 302, 51, 303, 304, 305, 52, 203, 189, 190, 191, 192, 193, 194, 195, 196, 197, 199, 200, 201, 202, 204, 183, 184, 205, 206, 207, 208, 209, 210, 211, 212, 213, 214, 215, 54, 216, 217, 218, 219, 220, 221, 222, 35, 223, 42, 224, 164, 165, 166, 225, 82, 83, 84, 226, 227, 228, 229, 37, 230, 176, 177, 178, 179, 180, 181, 182, 618, 619, 620, 621, 622, 626, 627, 628, 629, 633, 634, 635, 636, 637, 638, 639, 640, 650] (by decide +kernel) (by decide +kernel)) (goodIn_sub (fun _ h => List.mem_append_left _ (List.mem_append_right _ h)) (by decide +kernel))) (goodIn_sub (fun _ h => List.mem_append_left _ (List.mem_append_left _ (List.mem_append_right _ h))) (by decide +kernel))) (goodIn_sub (fun _ h => List.mem_append_right _ h) (by decide +kernel))
set_option maxRecDepth 20000 in
theorem gL_law_X6_permit : GoodIn wsL_law (wsV RL 83 RX6 yX6_permit wsX6_permit) := goodIn_app (goodIn_of _ (by decide +kernel)) ggL_law_X6_permit
set_option maxRecDepth 20000 in
theorem ggL_law_X6_talk : GoodIn wsL_law wsX6_talk := goodIn_ca (goodIn_ca (goodIn_r _ [309, 106, 107, 29, 310, 311, 312, 2, 313, 153, 154, 314, 315, 316, 28, 317, 125, 318, 319, 320, 321, 63, 60, 322, 323, 324, 325, 67, 326, 327, 328, 329, 330, 176, 177, 35, 178, 179, 180, 181, 182, 42, 183, 184, 331, 332, 333, 334, 61, 335, 336, 337, 66, 338, 339, 340, 341, 342, 343, 73, 74, 344, 345, 346, 347, 348, 349, 350, 351, 352, 353, 354, 355, 356, 357, 358, 359, 164, 165, 166, 618, 619, 620, 621, 622, 641, 642, 643, 644, 645, 646, 647, 648, 649, 650, 651, 652, 653] (by decide +kernel) (by decide +kernel)) (goodIn_sub (fun _ h => List.mem_append_left _ (List.mem_append_right _ h)) (by decide +kernel))) (goodIn_sub (fun _ h => List.mem_append_right _ h) (by decide +kernel))
set_option maxRecDepth 20000 in
theorem gL_law_X6_talk : GoodIn wsL_law (wsV RL 87 RX6 yX6_talk wsX6_talk) := goodIn_app (goodIn_of _ (by decide +kernel)) ggL_law_X6_talk
set_option maxRecDepth 20000 in
theorem ggL_law_X6_ask : GoodIn wsL_law wsX6_ask := goodIn_ca (goodIn_ca (goodIn_r _ [363, 29, 310, 311, 312, 2, 313, 153, 154, 314, 315, 316, 28, 317, 125, 364, 365, 366, 367, 106, 107, 368, 369, 370, 371, 372, 373, 374, 375, 376, 377, 378, 379, 112, 380, 381, 382, 383, 68, 63, 61, 62, 384, 206, 207, 208, 209, 210, 211, 385, 386, 387, 388, 67, 326, 327, 328, 329, 60, 330, 176, 177, 35, 178, 179, 180, 181, 182, 42, 183, 184, 331, 332, 333, 334, 335, 336, 337, 66, 338, 339, 340, 341, 342, 343, 73, 74, 344, 345, 346, 347, 348, 349, 350, 351, 352, 353, 354, 355, 356, 357, 358, 389, 390, 391, 392, 58, 618, 619, 620, 621, 622, 641, 642, 643, 644, 645, 646, 647, 648, 649, 650, 651, 652, 653] (by decide +kernel) (by decide +kernel)) (goodIn_sub (fun _ h => List.mem_append_right _ h) (by decide +kernel))) (goodIn_sub (fun _ h => List.mem_append_left _ (List.mem_append_right _ h)) (by decide +kernel))
set_option maxRecDepth 20000 in
theorem gL_law_X6_ask : GoodIn wsL_law (wsV RL 91 RX6 yX6_ask wsX6_ask) := goodIn_app (goodIn_of _ (by decide +kernel)) ggL_law_X6_ask
set_option maxRecDepth 20000 in
theorem ggL_law_Jx4a65c_add_9ea2d : GoodIn wsL_law wsJx4a65c_add_9ea2d := goodIn_r _ [396, 397, 398, 134, 399, 400, 401, 402, 6, 403, 404, 405, 406, 407, 408, 409, 410, 411, 133, 412, 304, 301, 305, 413, 414, 415, 416, 417, 418, 419, 420, 421, 422, 423, 424, 425, 426, 427, 428, 429, 430, 431, 432, 433, 434, 435, 436, 300, 302, 437, 438, 439, 440, 623, 624, 625] (by decide +kernel) (by decide +kernel)
set_option maxRecDepth 20000 in
theorem gL_law_Jx4a65c_add_9ea2d_f94Jx4a65c : GoodIn wsL_law (va_wsF RL 94 RJx4a65c ⟨"java/util/List", "add", "(Ljava/lang/Object;)Z"⟩ yJx4a65c_add_9ea2d wsJx4a65c_add_9ea2d) := goodIn_app (goodIn_of _ (by decide +kernel)) ggL_law_Jx4a65c_add_9ea2d
set_option maxRecDepth 20000 in
theorem ggL_law_Jx4a65c_iterator_32c93 : GoodIn wsL_law wsJx4a65c_iterator_32c93 := goodIn_r _ [444, 445, 446, 447, 448, 449, 450, 451, 452, 12, 13, 453, 454, 398, 455, 654, 655, 656, 657, 623, 624, 625] (by decide +kernel) (by decide +kernel)
set_option maxRecDepth 20000 in
theorem gL_law_Jx4a65c_iterator_32c93_f98Jx4a65c : GoodIn wsL_law (va_wsF RL 98 RJx4a65c ⟨"java/util/List", "iterator", "()Ljava/util/Iterator;"⟩ yJx4a65c_iterator_32c93 wsJx4a65c_iterator_32c93) := goodIn_app (goodIn_of _ (by decide +kernel)) ggL_law_Jx4a65c_iterator_32c93
set_option maxRecDepth 20000 in
theorem ggL_law_Jx35411_hasNext_aae02 : GoodIn wsL_law wsJx35411_hasNext_aae02 := goodIn_r _ [459, 460, 451, 654, 655, 656, 657, 623, 624, 625] (by decide +kernel) (by decide +kernel)
set_option maxRecDepth 20000 in
theorem gL_law_Jx35411_hasNext_aae02_f102Jx35411 : GoodIn wsL_law (va_wsF RL 102 RJx35411 ⟨"java/util/Iterator", "hasNext", "()Z"⟩ yJx35411_hasNext_aae02 wsJx35411_hasNext_aae02) := goodIn_app (goodIn_of _ (by decide +kernel)) ggL_law_Jx35411_hasNext_aae02
set_option maxRecDepth 20000 in
theorem ggL_law_Jx35411_next_0502b : GoodIn wsL_law wsJx35411_next_0502b := goodIn_r _ [464, 460, 451, 465, 453, 466, 467, 468, 447, 469, 454, 398, 455, 654, 655, 656, 657, 623, 624, 625] (by decide +kernel) (by decide +kernel)
set_option maxRecDepth 20000 in
theorem gL_law_Jx35411_next_0502b_f108Jx35411 : GoodIn wsL_law (va_wsF RL 108 RJx35411 ⟨"java/util/Iterator", "next", "()Ljava/lang/Object;"⟩ yJx35411_next_0502b wsJx35411_next_0502b) := goodIn_app (goodIn_of _ (by decide +kernel)) ggL_law_Jx35411_next_0502b
set_option maxRecDepth 20000 in
theorem ggL_law_J6_valueOf_2dffe : GoodIn wsL_law wsJ6_valueOf_2dffe := goodIn_r _ [472, 473, 474, 475, 476, 207, 477, 478, 479, 480, 481, 482, 483, 484, 485, 12, 13, 658] (by decide +kernel) (by decide +kernel)
set_option maxRecDepth 20000 in
theorem gL_law_J6_valueOf_2dffe : GoodIn wsL_law (va_wsS RL 112 yJ6_valueOf_2dffe wsJ6_valueOf_2dffe) := goodIn_app (goodIn_of _ (by decide +kernel)) ggL_law_J6_valueOf_2dffe
set_option maxRecDepth 20000 in
theorem ggL_law_L_isIn : GoodIn wsL_law wsL_isIn := goodIn_r _ [488, 489, 490, 92, 491, 492, 493, 494, 495, 496, 497, 498, 6, 499, 399, 500, 501, 502, 503, 504, 505, 506, 507, 508, 509, 510, 511, 512, 513, 514, 515, 134, 516, 517, 518, 207, 519, 480, 520, 521, 522, 523, 623, 624, 625, 658] (by decide +kernel) (by decide +kernel)
set_option maxRecDepth 20000 in
theorem gL_law_L_isIn : GoodIn wsL_law (va_wsS RL 116 yL_isIn wsL_isIn) := goodIn_app (goodIn_of _ (by decide +kernel)) ggL_law_L_isIn
set_option maxRecDepth 20000 in
theorem ggL_law_X6_ofTable : GoodIn wsL_law wsX6_ofTable := goodIn_ca (goodIn_ca (goodIn_r _ [527, 153, 154, 106, 107, 21, 262, 263, 264, 20, 265, 235, 270, 271, 272, 273, 46, 266, 267, 268, 269, 236, 183, 2, 184, 618, 619, 620, 621, 622, 630, 631, 632] (by decide +kernel) (by decide +kernel)) (goodIn_sub (fun _ h => List.mem_append_right _ h) (by decide +kernel))) (goodIn_sub (fun _ h => List.mem_append_left _ (List.mem_append_right _ h)) (by decide +kernel))
set_option maxRecDepth 20000 in
theorem gL_law_X6_ofTable : GoodIn wsL_law (wsV RL 120 RX6 yX6_ofTable wsX6_ofTable) := goodIn_app (goodIn_of _ (by decide +kernel)) ggL_law_X6_ofTable
set_option maxRecDepth 20000 in
theorem ggL_law_X6_ofSource : GoodIn wsL_law wsX6_ofSource := goodIn_ca (goodIn_ca (goodIn_r _ [531, 106, 107, 17, 25, 21, 149, 150, 151, 2, 152, 153, 154, 155, 156, 157, 16, 158, 85, 532, 533, 534, 535, 36, 536, 537, 538, 35, 539, 42, 540, 227, 228, 229, 37, 541, 542, 543, 24, 544, 54, 194, 195, 196, 197, 198, 199, 200, 201, 202, 203, 52, 204, 183, 184, 216, 217, 218, 219, 50, 51, 220, 221, 222, 223, 224, 164, 165, 166, 230, 176, 177, 178, 179, 180, 181, 182, 545, 546, 547, 20, 548, 235, 236, 46, 618, 619, 620, 621, 622, 626, 627, 628, 629, 650, 633, 634, 635, 636, 637, 638, 639, 640, 630, 631, 632] (by decide +kernel) (by decide +kernel)) (goodIn_sub (fun _ h => List.mem_append_left _ (List.mem_append_right _ h)) (by decide +kernel))) (goodIn_sub (fun _ h => List.mem_append_right _ h) (by decide +kernel))
set_option maxRecDepth 20000 in
theorem gL_law_X6_ofSource : GoodIn wsL_law (wsV RL 123 RX6 yX6_ofSource wsX6_ofSource) := goodIn_app (goodIn_of _ (by decide +kernel)) ggL_law_X6_ofSource
set_option maxRecDepth 20000 in
theorem ggL_law_X6_house : GoodIn wsL_law wsX6_house := goodIn_ca (goodIn_r _ [552, 106, 107, 17, 21, 25, 29, 553, 81, 82, 83, 16, 84, 85, 279, 280, 281, 20, 282, 235, 554, 238, 239, 240, 236, 241, 206, 207, 208, 209, 210, 211, 555, 556, 557, 558, 38, 559, 560, 561, 24, 562, 194, 195, 196, 197, 198, 199, 200, 201, 202, 203, 52, 204, 183, 2, 184, 205, 563, 564, 565, 566, 212, 213, 214, 215, 54, 216, 217, 218, 219, 50, 51, 220, 221, 222, 35, 223, 42, 224, 164, 165, 166, 225, 226, 227, 228, 229, 37, 230, 176, 177, 178, 179, 180, 181, 182, 567, 568, 569, 570, 193, 571, 572, 573, 574, 108, 109, 110, 28, 111, 112, 121, 122, 123, 124, 125, 575, 576, 577, 578, 68, 579, 580, 581, 582, 62, 583, 584, 585, 586, 587, 588, 589, 63, 618, 619, 620, 621, 622, 626, 627, 628, 629, 630, 631, 632, 633, 634, 635, 636, 637, 638, 639, 640, 650, 641, 642, 643, 644, 645, 646, 647, 648, 649] (by decide +kernel) (by decide +kernel)) (goodIn_sub (fun _ h => List.mem_append_left _ (List.mem_append_right _ h)) (by decide +kernel))
set_option maxRecDepth 20000 in
theorem gL_law_X6_house : GoodIn wsL_law (wsV RL 126 RX6 yX6_house wsX6_house) := goodIn_app (goodIn_of _ (by decide +kernel)) ggL_law_X6_house
set_option maxRecDepth 20000 in
theorem ggL_law_L_isShut : GoodIn wsL_law wsL_isShut := goodIn_r _ [592, 3] (by decide +kernel) (by decide +kernel)
set_option maxRecDepth 20000 in
theorem gL_law_L_isShut : GoodIn wsL_law (va_wsS RL 129 yL_isShut wsL_isShut) := goodIn_app (goodIn_of _ (by decide +kernel)) ggL_law_L_isShut
set_option maxRecDepth 20000 in
theorem ggL_law_J6_bitCount_0f7a4 : GoodIn wsL_law wsJ6_bitCount_0f7a4 := goodIn_r _ [208, 209, 210, 211] (by decide +kernel) (by decide +kernel)
set_option maxRecDepth 20000 in
theorem gL_law_J6_bitCount_0f7a4 : GoodIn wsL_law (va_wsS RL 133 yJ6_bitCount_0f7a4 wsJ6_bitCount_0f7a4) := goodIn_app (goodIn_of _ (by decide +kernel)) ggL_law_J6_bitCount_0f7a4
set_option maxRecDepth 20000 in
theorem ggL_law_X6_isSound : GoodIn wsL_law wsX6_isSound := goodIn_r _ [597, 29, 21, 17, 25, 598, 599, 600, 28, 601, 125, 67, 326, 327, 328, 329, 60, 330, 176, 177, 35, 178, 179, 180, 181, 182, 42, 183, 2, 184, 331, 332, 333, 334, 61, 335, 336, 337, 66, 338, 339, 340, 341, 342, 343, 73, 74, 344, 345, 346, 347, 348, 349, 350, 351, 352, 353, 354, 355, 356, 357, 358, 602, 603, 604, 605, 606, 607, 608, 609, 610, 611, 612, 20, 613, 235, 236, 46, 242, 243, 244, 16, 245, 85, 37, 614, 615, 616, 24, 617, 193, 194, 195, 196, 197, 198, 199, 200, 201, 202, 203, 52, 204, 212, 213, 214, 215, 54, 216, 217, 218, 219, 50, 51, 220, 221, 222, 223, 224, 164, 165, 166, 225, 82, 83, 84, 226, 227, 228, 229, 230, 205, 206, 207, 208, 209, 210, 211, 618, 619, 620, 621, 622, 641, 642, 643, 644, 645, 646, 647, 648, 649, 650, 651, 652, 653, 630, 631, 632, 626, 627, 628, 629, 633, 634, 635, 636, 637, 638, 639, 640] (by decide +kernel) (by decide +kernel)
set_option maxRecDepth 20000 in
theorem gL_law_X6_isSound : GoodIn wsL_law (wsV RL 136 RX6 yX6_isSound wsX6_isSound) := goodIn_app (goodIn_of _ (by decide +kernel)) ggL_law_X6_isSound
theorem dL_law_0 : decode cL_law 0 = .ok (.new 48, 3) := by decide +kernel
theorem dL_law_3 : decode cL_law 3 = .ok (.dup, 1) := by decide +kernel
theorem dL_law_4 : decode cL_law 4 = .ok (.invokespecial 50, 3) := by decide +kernel
theorem dL_law_7 : decode cL_law 7 = .ok (.astore_n 1, 1) := by decide +kernel
theorem dL_law_8 : decode cL_law 8 = .ok (.new 48, 3) := by decide +kernel
theorem dL_law_11 : decode cL_law 11 = .ok (.dup, 1) := by decide +kernel
theorem dL_law_12 : decode cL_law 12 = .ok (.invokespecial 50, 3) := by decide +kernel
theorem dL_law_15 : decode cL_law 15 = .ok (.astore_n 2, 1) := by decide +kernel
theorem dL_law_16 : decode cL_law 16 = .ok (.iconst 0, 1) := by decide +kernel
theorem dL_law_17 : decode cL_law 17 = .ok (.istore_n 3, 1) := by decide +kernel
theorem dL_law_18 : decode cL_law 18 = .ok (.iload_n 3, 1) := by decide +kernel
theorem dL_law_19 : decode cL_law 19 = .ok (.bipush 6, 2) := by decide +kernel
theorem dL_law_21 : decode cL_law 21 = .ok (.if_icmp .ge 38, 3) := by decide +kernel
theorem dL_law_24 : decode cL_law 24 = .ok (.aload_n 1, 1) := by decide +kernel
theorem dL_law_25 : decode cL_law 25 = .ok (.invokevirtual 51, 3) := by decide +kernel
theorem dL_law_28 : decode cL_law 28 = .ok (.pop, 1) := by decide +kernel
theorem dL_law_29 : decode cL_law 29 = .ok (.aload_n 2, 1) := by decide +kernel
theorem dL_law_30 : decode cL_law 30 = .ok (.invokevirtual 51, 3) := by decide +kernel
theorem dL_law_33 : decode cL_law 33 = .ok (.pop, 1) := by decide +kernel
theorem dL_law_34 : decode cL_law 34 = .ok (.aload_n 1, 1) := by decide +kernel
theorem dL_law_35 : decode cL_law 35 = .ok (.aload_n 0, 1) := by decide +kernel
theorem dL_law_36 : decode cL_law 36 = .ok (.iload_n 3, 1) := by decide +kernel
theorem dL_law_37 : decode cL_law 37 = .ok (.sipush 1000, 3) := by decide +kernel
theorem dL_law_40 : decode cL_law 40 = .ok (.invokestatic 54, 3) := by decide +kernel
theorem dL_law_43 : decode cL_law 43 = .ok (.invokevirtual 58, 3) := by decide +kernel
theorem dL_law_46 : decode cL_law 46 = .ok (.pop, 1) := by decide +kernel
theorem dL_law_47 : decode cL_law 47 = .ok (.aload_n 2, 1) := by decide +kernel
theorem dL_law_48 : decode cL_law 48 = .ok (.iconst 0, 1) := by decide +kernel
theorem dL_law_49 : decode cL_law 49 = .ok (.invokevirtual 58, 3) := by decide +kernel
theorem dL_law_52 : decode cL_law 52 = .ok (.pop, 1) := by decide +kernel
theorem dL_law_53 : decode cL_law 53 = .ok (.iinc 3 1, 3) := by decide +kernel
theorem dL_law_56 : decode cL_law 56 = .ok (.goto (-38), 3) := by decide +kernel
theorem dL_law_59 : decode cL_law 59 = .ok (.iconst 4, 1) := by decide +kernel
theorem dL_law_60 : decode cL_law 60 = .ok (.newarray .int, 2) := by decide +kernel
theorem dL_law_62 : decode cL_law 62 = .ok (.dup, 1) := by decide +kernel
theorem dL_law_63 : decode cL_law 63 = .ok (.iconst 0, 1) := by decide +kernel
theorem dL_law_64 : decode cL_law 64 = .ok (.iconst 1, 1) := by decide +kernel
theorem dL_law_65 : decode cL_law 65 = .ok (.iastore, 1) := by decide +kernel
theorem dL_law_66 : decode cL_law 66 = .ok (.dup, 1) := by decide +kernel
theorem dL_law_67 : decode cL_law 67 = .ok (.iconst 1, 1) := by decide +kernel
theorem dL_law_68 : decode cL_law 68 = .ok (.iconst 2, 1) := by decide +kernel
theorem dL_law_69 : decode cL_law 69 = .ok (.iastore, 1) := by decide +kernel
theorem dL_law_70 : decode cL_law 70 = .ok (.dup, 1) := by decide +kernel
theorem dL_law_71 : decode cL_law 71 = .ok (.iconst 2, 1) := by decide +kernel
theorem dL_law_72 : decode cL_law 72 = .ok (.iconst 4, 1) := by decide +kernel
theorem dL_law_73 : decode cL_law 73 = .ok (.iastore, 1) := by decide +kernel
theorem dL_law_74 : decode cL_law 74 = .ok (.dup, 1) := by decide +kernel
theorem dL_law_75 : decode cL_law 75 = .ok (.iconst 3, 1) := by decide +kernel
theorem dL_law_76 : decode cL_law 76 = .ok (.bipush 8, 2) := by decide +kernel
theorem dL_law_78 : decode cL_law 78 = .ok (.iastore, 1) := by decide +kernel
theorem dL_law_79 : decode cL_law 79 = .ok (.astore_n 3, 1) := by decide +kernel
theorem dL_law_80 : decode cL_law 80 = .ok (.iconst 0, 1) := by decide +kernel
theorem dL_law_81 : decode cL_law 81 = .ok (.istore 4, 2) := by decide +kernel
theorem dL_law_83 : decode cL_law 83 = .ok (.iload 4, 2) := by decide +kernel
theorem dL_law_85 : decode cL_law 85 = .ok (.iconst 4, 1) := by decide +kernel
theorem dL_law_86 : decode cL_law 86 = .ok (.if_icmp .ge 19, 3) := by decide +kernel
theorem dL_law_89 : decode cL_law 89 = .ok (.aload_n 1, 1) := by decide +kernel
theorem dL_law_90 : decode cL_law 90 = .ok (.invokevirtual 62, 3) := by decide +kernel
theorem dL_law_93 : decode cL_law 93 = .ok (.pop, 1) := by decide +kernel
theorem dL_law_94 : decode cL_law 94 = .ok (.aload_n 2, 1) := by decide +kernel
theorem dL_law_95 : decode cL_law 95 = .ok (.invokevirtual 62, 3) := by decide +kernel
theorem dL_law_98 : decode cL_law 98 = .ok (.pop, 1) := by decide +kernel
theorem dL_law_99 : decode cL_law 99 = .ok (.iinc 4 1, 3) := by decide +kernel
theorem dL_law_102 : decode cL_law 102 = .ok (.goto (-19), 3) := by decide +kernel
theorem dL_law_105 : decode cL_law 105 = .ok (.new 65, 3) := by decide +kernel
theorem dL_law_108 : decode cL_law 108 = .ok (.dup, 1) := by decide +kernel
theorem dL_law_109 : decode cL_law 109 = .ok (.invokespecial 67, 3) := by decide +kernel
theorem dL_law_112 : decode cL_law 112 = .ok (.astore 4, 2) := by decide +kernel
theorem dL_law_114 : decode cL_law 114 = .ok (.bipush 8, 2) := by decide +kernel
theorem dL_law_116 : decode cL_law 116 = .ok (.anewarray 68, 3) := by decide +kernel
theorem dL_law_119 : decode cL_law 119 = .ok (.astore 5, 2) := by decide +kernel
theorem dL_law_121 : decode cL_law 121 = .ok (.iconst 0, 1) := by decide +kernel
theorem dL_law_122 : decode cL_law 122 = .ok (.istore 6, 2) := by decide +kernel
theorem dL_law_124 : decode cL_law 124 = .ok (.iconst 0, 1) := by decide +kernel
theorem dL_law_125 : decode cL_law 125 = .ok (.istore 7, 2) := by decide +kernel
theorem dL_law_127 : decode cL_law 127 = .ok (.iconst 0, 1) := by decide +kernel
theorem dL_law_128 : decode cL_law 128 = .ok (.istore 8, 2) := by decide +kernel
theorem dL_law_130 : decode cL_law 130 = .ok (.iload 8, 2) := by decide +kernel
theorem dL_law_132 : decode cL_law 132 = .ok (.bipush 48, 2) := by decide +kernel
theorem dL_law_134 : decode cL_law 134 = .ok (.if_icmp .ge 802, 3) := by decide +kernel
theorem dL_law_137 : decode cL_law 137 = .ok (.bipush 6, 2) := by decide +kernel
theorem dL_law_139 : decode cL_law 139 = .ok (.iconst 5, 1) := by decide +kernel
theorem dL_law_140 : decode cL_law 140 = .ok (.iload 8, 2) := by decide +kernel
theorem dL_law_142 : decode cL_law 142 = .ok (.imul, 1) := by decide +kernel
theorem dL_law_143 : decode cL_law 143 = .ok (.iadd, 1) := by decide +kernel
theorem dL_law_144 : decode cL_law 144 = .ok (.istore 9, 2) := by decide +kernel
theorem dL_law_146 : decode cL_law 146 = .ok (.aload_n 0, 1) := by decide +kernel
theorem dL_law_147 : decode cL_law 147 = .ok (.iload 9, 2) := by decide +kernel
theorem dL_law_149 : decode cL_law 149 = .ok (.bipush 6, 2) := by decide +kernel
theorem dL_law_151 : decode cL_law 151 = .ok (.invokestatic 54, 3) := by decide +kernel
theorem dL_law_154 : decode cL_law 154 = .ok (.istore 10, 2) := by decide +kernel
theorem dL_law_156 : decode cL_law 156 = .ok (.aload_n 0, 1) := by decide +kernel
theorem dL_law_157 : decode cL_law 157 = .ok (.iload 9, 2) := by decide +kernel
theorem dL_law_159 : decode cL_law 159 = .ok (.iconst 1, 1) := by decide +kernel
theorem dL_law_160 : decode cL_law 160 = .ok (.iadd, 1) := by decide +kernel
theorem dL_law_161 : decode cL_law 161 = .ok (.bipush 6, 2) := by decide +kernel
theorem dL_law_163 : decode cL_law 163 = .ok (.invokestatic 54, 3) := by decide +kernel
theorem dL_law_166 : decode cL_law 166 = .ok (.istore 11, 2) := by decide +kernel
theorem dL_law_168 : decode cL_law 168 = .ok (.aload_n 0, 1) := by decide +kernel
theorem dL_law_169 : decode cL_law 169 = .ok (.iload 9, 2) := by decide +kernel
theorem dL_law_171 : decode cL_law 171 = .ok (.iconst 2, 1) := by decide +kernel
theorem dL_law_172 : decode cL_law 172 = .ok (.iadd, 1) := by decide +kernel
theorem dL_law_173 : decode cL_law 173 = .ok (.bipush 8, 2) := by decide +kernel
theorem dL_law_175 : decode cL_law 175 = .ok (.invokestatic 54, 3) := by decide +kernel
theorem dL_law_178 : decode cL_law 178 = .ok (.tableswitch 315 0 4 #[34, 85, 113, 155, 217], 34) := by decide +kernel
theorem dL_law_212 : decode cL_law 212 = .ok (.iload 10, 2) := by decide +kernel
theorem dL_law_214 : decode cL_law 214 = .ok (.iload 11, 2) := by decide +kernel
theorem dL_law_216 : decode cL_law 216 = .ok (.if_icmp .eq 364, 3) := by decide +kernel
theorem dL_law_219 : decode cL_law 219 = .ok (.aload_n 0, 1) := by decide +kernel
theorem dL_law_220 : decode cL_law 220 = .ok (.iload 9, 2) := by decide +kernel
theorem dL_law_222 : decode cL_law 222 = .ok (.iconst 3, 1) := by decide +kernel
theorem dL_law_223 : decode cL_law 223 = .ok (.iadd, 1) := by decide +kernel
theorem dL_law_224 : decode cL_law 224 = .ok (.iconst 3, 1) := by decide +kernel
theorem dL_law_225 : decode cL_law 225 = .ok (.invokestatic 54, 3) := by decide +kernel
theorem dL_law_228 : decode cL_law 228 = .ok (.ifCond .le 7, 3) := by decide +kernel
theorem dL_law_231 : decode cL_law 231 = .ok (.iconst 1, 1) := by decide +kernel
theorem dL_law_232 : decode cL_law 232 = .ok (.goto 4, 3) := by decide +kernel
theorem dL_law_235 : decode cL_law 235 = .ok (.iconst 0, 1) := by decide +kernel
theorem dL_law_236 : decode cL_law 236 = .ok (.istore 12, 2) := by decide +kernel
theorem dL_law_238 : decode cL_law 238 = .ok (.aload_n 1, 1) := by decide +kernel
theorem dL_law_239 : decode cL_law 239 = .ok (.iload 10, 2) := by decide +kernel
theorem dL_law_241 : decode cL_law 241 = .ok (.iload 11, 2) := by decide +kernel
theorem dL_law_243 : decode cL_law 243 = .ok (.iload 12, 2) := by decide +kernel
theorem dL_law_245 : decode cL_law 245 = .ok (.invokevirtual 70, 3) := by decide +kernel
theorem dL_law_248 : decode cL_law 248 = .ok (.pop, 1) := by decide +kernel
theorem dL_law_249 : decode cL_law 249 = .ok (.aload_n 2, 1) := by decide +kernel
theorem dL_law_250 : decode cL_law 250 = .ok (.iload 10, 2) := by decide +kernel
theorem dL_law_252 : decode cL_law 252 = .ok (.iload 11, 2) := by decide +kernel
theorem dL_law_254 : decode cL_law 254 = .ok (.iload 12, 2) := by decide +kernel
theorem dL_law_256 : decode cL_law 256 = .ok (.invokevirtual 70, 3) := by decide +kernel
theorem dL_law_259 : decode cL_law 259 = .ok (.pop, 1) := by decide +kernel
theorem dL_law_260 : decode cL_law 260 = .ok (.goto 320, 3) := by decide +kernel
theorem dL_law_263 : decode cL_law 263 = .ok (.aload_n 0, 1) := by decide +kernel
theorem dL_law_264 : decode cL_law 264 = .ok (.iload 9, 2) := by decide +kernel
theorem dL_law_266 : decode cL_law 266 = .ok (.iconst 3, 1) := by decide +kernel
theorem dL_law_267 : decode cL_law 267 = .ok (.iadd, 1) := by decide +kernel
theorem dL_law_268 : decode cL_law 268 = .ok (.iconst 4, 1) := by decide +kernel
theorem dL_law_269 : decode cL_law 269 = .ok (.invokestatic 54, 3) := by decide +kernel
theorem dL_law_272 : decode cL_law 272 = .ok (.istore 12, 2) := by decide +kernel
theorem dL_law_274 : decode cL_law 274 = .ok (.aload_n 1, 1) := by decide +kernel
theorem dL_law_275 : decode cL_law 275 = .ok (.iload 12, 2) := by decide +kernel
theorem dL_law_277 : decode cL_law 277 = .ok (.invokevirtual 74, 3) := by decide +kernel
theorem dL_law_280 : decode cL_law 280 = .ok (.pop, 1) := by decide +kernel
theorem dL_law_281 : decode cL_law 281 = .ok (.aload_n 2, 1) := by decide +kernel
theorem dL_law_282 : decode cL_law 282 = .ok (.iload 12, 2) := by decide +kernel
theorem dL_law_284 : decode cL_law 284 = .ok (.invokevirtual 74, 3) := by decide +kernel
theorem dL_law_287 : decode cL_law 287 = .ok (.pop, 1) := by decide +kernel
theorem dL_law_288 : decode cL_law 288 = .ok (.goto 292, 3) := by decide +kernel
theorem dL_law_291 : decode cL_law 291 = .ok (.iload 7, 2) := by decide +kernel
theorem dL_law_293 : decode cL_law 293 = .ok (.bipush 10, 2) := by decide +kernel
theorem dL_law_295 : decode cL_law 295 = .ok (.if_icmp .ge 285, 3) := by decide +kernel
theorem dL_law_298 : decode cL_law 298 = .ok (.aload_n 1, 1) := by decide +kernel
theorem dL_law_299 : decode cL_law 299 = .ok (.iload 10, 2) := by decide +kernel
theorem dL_law_301 : decode cL_law 301 = .ok (.iload 11, 2) := by decide +kernel
theorem dL_law_303 : decode cL_law 303 = .ok (.invokevirtual 77, 3) := by decide +kernel
theorem dL_law_306 : decode cL_law 306 = .ok (.ifCond .ge 274, 3) := by decide +kernel
theorem dL_law_309 : decode cL_law 309 = .ok (.aload_n 1, 1) := by decide +kernel
theorem dL_law_310 : decode cL_law 310 = .ok (.iload 10, 2) := by decide +kernel
theorem dL_law_312 : decode cL_law 312 = .ok (.iload 11, 2) := by decide +kernel
theorem dL_law_314 : decode cL_law 314 = .ok (.invokevirtual 80, 3) := by decide +kernel
theorem dL_law_317 : decode cL_law 317 = .ok (.pop, 1) := by decide +kernel
theorem dL_law_318 : decode cL_law 318 = .ok (.aload_n 2, 1) := by decide +kernel
theorem dL_law_319 : decode cL_law 319 = .ok (.iload 10, 2) := by decide +kernel
theorem dL_law_321 : decode cL_law 321 = .ok (.iload 11, 2) := by decide +kernel
theorem dL_law_323 : decode cL_law 323 = .ok (.invokevirtual 80, 3) := by decide +kernel
theorem dL_law_326 : decode cL_law 326 = .ok (.pop, 1) := by decide +kernel
theorem dL_law_327 : decode cL_law 327 = .ok (.iinc 7 1, 3) := by decide +kernel
theorem dL_law_330 : decode cL_law 330 = .ok (.goto 250, 3) := by decide +kernel
theorem dL_law_333 : decode cL_law 333 = .ok (.iload 10, 2) := by decide +kernel
theorem dL_law_335 : decode cL_law 335 = .ok (.iload 11, 2) := by decide +kernel
theorem dL_law_337 : decode cL_law 337 = .ok (.if_icmp .eq 243, 3) := by decide +kernel
theorem dL_law_340 : decode cL_law 340 = .ok (.iload 6, 2) := by decide +kernel
theorem dL_law_342 : decode cL_law 342 = .ok (.bipush 8, 2) := by decide +kernel
theorem dL_law_344 : decode cL_law 344 = .ok (.if_icmp .ge 236, 3) := by decide +kernel
theorem dL_law_347 : decode cL_law 347 = .ok (.aload 5, 2) := by decide +kernel
theorem dL_law_349 : decode cL_law 349 = .ok (.iload 6, 2) := by decide +kernel
theorem dL_law_351 : decode cL_law 351 = .ok (.iconst 2, 1) := by decide +kernel
theorem dL_law_352 : decode cL_law 352 = .ok (.newarray .int, 2) := by decide +kernel
theorem dL_law_354 : decode cL_law 354 = .ok (.dup, 1) := by decide +kernel
theorem dL_law_355 : decode cL_law 355 = .ok (.iconst 0, 1) := by decide +kernel
theorem dL_law_356 : decode cL_law 356 = .ok (.iload 10, 2) := by decide +kernel
theorem dL_law_358 : decode cL_law 358 = .ok (.iastore, 1) := by decide +kernel
theorem dL_law_359 : decode cL_law 359 = .ok (.dup, 1) := by decide +kernel
theorem dL_law_360 : decode cL_law 360 = .ok (.iconst 1, 1) := by decide +kernel
theorem dL_law_361 : decode cL_law 361 = .ok (.iload 11, 2) := by decide +kernel
theorem dL_law_363 : decode cL_law 363 = .ok (.iastore, 1) := by decide +kernel
theorem dL_law_364 : decode cL_law 364 = .ok (.aastore, 1) := by decide +kernel
theorem dL_law_365 : decode cL_law 365 = .ok (.aload_n 1, 1) := by decide +kernel
theorem dL_law_366 : decode cL_law 366 = .ok (.iload 10, 2) := by decide +kernel
theorem dL_law_368 : decode cL_law 368 = .ok (.iload 11, 2) := by decide +kernel
theorem dL_law_370 : decode cL_law 370 = .ok (.sipush 999, 3) := by decide +kernel
theorem dL_law_373 : decode cL_law 373 = .ok (.invokevirtual 83, 3) := by decide +kernel
theorem dL_law_376 : decode cL_law 376 = .ok (.pop, 1) := by decide +kernel
theorem dL_law_377 : decode cL_law 377 = .ok (.aload_n 2, 1) := by decide +kernel
theorem dL_law_378 : decode cL_law 378 = .ok (.iload 10, 2) := by decide +kernel
theorem dL_law_380 : decode cL_law 380 = .ok (.iload 11, 2) := by decide +kernel
theorem dL_law_382 : decode cL_law 382 = .ok (.sipush 999, 3) := by decide +kernel
theorem dL_law_385 : decode cL_law 385 = .ok (.invokevirtual 83, 3) := by decide +kernel
theorem dL_law_388 : decode cL_law 388 = .ok (.pop, 1) := by decide +kernel
theorem dL_law_389 : decode cL_law 389 = .ok (.iinc 6 1, 3) := by decide +kernel
theorem dL_law_392 : decode cL_law 392 = .ok (.goto 188, 3) := by decide +kernel
theorem dL_law_395 : decode cL_law 395 = .ok (.iload 10, 2) := by decide +kernel
theorem dL_law_397 : decode cL_law 397 = .ok (.iconst 3, 1) := by decide +kernel
theorem dL_law_398 : decode cL_law 398 = .ok (.if_icmp .gt 182, 3) := by decide +kernel
theorem dL_law_401 : decode cL_law 401 = .ok (.iload 11, 2) := by decide +kernel
theorem dL_law_403 : decode cL_law 403 = .ok (.iconst 3, 1) := by decide +kernel
theorem dL_law_404 : decode cL_law 404 = .ok (.if_icmp .gt 176, 3) := by decide +kernel
theorem dL_law_407 : decode cL_law 407 = .ok (.iload 10, 2) := by decide +kernel
theorem dL_law_409 : decode cL_law 409 = .ok (.iload 11, 2) := by decide +kernel
theorem dL_law_411 : decode cL_law 411 = .ok (.if_icmp .ne 6, 3) := by decide +kernel
theorem dL_law_414 : decode cL_law 414 = .ok (.goto 166, 3) := by decide +kernel
theorem dL_law_417 : decode cL_law 417 = .ok (.aload_n 1, 1) := by decide +kernel
theorem dL_law_418 : decode cL_law 418 = .ok (.iload 10, 2) := by decide +kernel
theorem dL_law_420 : decode cL_law 420 = .ok (.iload 11, 2) := by decide +kernel
theorem dL_law_422 : decode cL_law 422 = .ok (.invokevirtual 87, 3) := by decide +kernel
theorem dL_law_425 : decode cL_law 425 = .ok (.istore 12, 2) := by decide +kernel
theorem dL_law_427 : decode cL_law 427 = .ok (.iload 12, 2) := by decide +kernel
theorem dL_law_429 : decode cL_law 429 = .ok (.aload_n 2, 1) := by decide +kernel
theorem dL_law_430 : decode cL_law 430 = .ok (.iload 10, 2) := by decide +kernel
theorem dL_law_432 : decode cL_law 432 = .ok (.iload 11, 2) := by decide +kernel
theorem dL_law_434 : decode cL_law 434 = .ok (.invokevirtual 87, 3) := by decide +kernel
theorem dL_law_437 : decode cL_law 437 = .ok (.if_icmp .eq 5, 3) := by decide +kernel
theorem dL_law_440 : decode cL_law 440 = .ok (.iconst 0, 1) := by decide +kernel
theorem dL_law_441 : decode cL_law 441 = .ok (.ireturn, 1) := by decide +kernel
theorem dL_law_442 : decode cL_law 442 = .ok (.aload_n 3, 1) := by decide +kernel
theorem dL_law_443 : decode cL_law 443 = .ok (.iload 10, 2) := by decide +kernel
theorem dL_law_445 : decode cL_law 445 = .ok (.iaload, 1) := by decide +kernel
theorem dL_law_446 : decode cL_law 446 = .ok (.aload_n 3, 1) := by decide +kernel
theorem dL_law_447 : decode cL_law 447 = .ok (.iload 11, 2) := by decide +kernel
theorem dL_law_449 : decode cL_law 449 = .ok (.iaload, 1) := by decide +kernel
theorem dL_law_450 : decode cL_law 450 = .ok (.ior, 1) := by decide +kernel
theorem dL_law_451 : decode cL_law 451 = .ok (.istore 13, 2) := by decide +kernel
theorem dL_law_453 : decode cL_law 453 = .ok (.iconst 0, 1) := by decide +kernel
theorem dL_law_454 : decode cL_law 454 = .ok (.istore 14, 2) := by decide +kernel
theorem dL_law_456 : decode cL_law 456 = .ok (.iload 14, 2) := by decide +kernel
theorem dL_law_458 : decode cL_law 458 = .ok (.iconst 4, 1) := by decide +kernel
theorem dL_law_459 : decode cL_law 459 = .ok (.if_icmp .ge 31, 3) := by decide +kernel
theorem dL_law_462 : decode cL_law 462 = .ok (.iload 12, 2) := by decide +kernel
theorem dL_law_464 : decode cL_law 464 = .ok (.ifCond .eq 26, 3) := by decide +kernel
theorem dL_law_467 : decode cL_law 467 = .ok (.iload 13, 2) := by decide +kernel
theorem dL_law_469 : decode cL_law 469 = .ok (.iload 14, 2) := by decide +kernel
theorem dL_law_471 : decode cL_law 471 = .ok (.ishr, 1) := by decide +kernel
theorem dL_law_472 : decode cL_law 472 = .ok (.iconst 1, 1) := by decide +kernel
theorem dL_law_473 : decode cL_law 473 = .ok (.iand, 1) := by decide +kernel
theorem dL_law_474 : decode cL_law 474 = .ok (.iconst 1, 1) := by decide +kernel
theorem dL_law_475 : decode cL_law 475 = .ok (.if_icmp .ne 9, 3) := by decide +kernel
theorem dL_law_478 : decode cL_law 478 = .ok (.aload_n 3, 1) := by decide +kernel
theorem dL_law_479 : decode cL_law 479 = .ok (.iload 14, 2) := by decide +kernel
theorem dL_law_481 : decode cL_law 481 = .ok (.iload 13, 2) := by decide +kernel
theorem dL_law_483 : decode cL_law 483 = .ok (.iastore, 1) := by decide +kernel
theorem dL_law_484 : decode cL_law 484 = .ok (.iinc 14 1, 3) := by decide +kernel
theorem dL_law_487 : decode cL_law 487 = .ok (.goto (-31), 3) := by decide +kernel
theorem dL_law_490 : decode cL_law 490 = .ok (.goto 90, 3) := by decide +kernel
theorem dL_law_493 : decode cL_law 493 = .ok (.iconst 1, 1) := by decide +kernel
theorem dL_law_494 : decode cL_law 494 = .ok (.aload_n 0, 1) := by decide +kernel
theorem dL_law_495 : decode cL_law 495 = .ok (.iload 9, 2) := by decide +kernel
theorem dL_law_497 : decode cL_law 497 = .ok (.iconst 3, 1) := by decide +kernel
theorem dL_law_498 : decode cL_law 498 = .ok (.iadd, 1) := by decide +kernel
theorem dL_law_499 : decode cL_law 499 = .ok (.bipush 63, 2) := by decide +kernel
theorem dL_law_501 : decode cL_law 501 = .ok (.invokestatic 54, 3) := by decide +kernel
theorem dL_law_504 : decode cL_law 504 = .ok (.iadd, 1) := by decide +kernel
theorem dL_law_505 : decode cL_law 505 = .ok (.istore 12, 2) := by decide +kernel
theorem dL_law_507 : decode cL_law 507 = .ok (.aload_n 1, 1) := by decide +kernel
theorem dL_law_508 : decode cL_law 508 = .ok (.iload 10, 2) := by decide +kernel
theorem dL_law_510 : decode cL_law 510 = .ok (.iconst 4, 1) := by decide +kernel
theorem dL_law_511 : decode cL_law 511 = .ok (.irem, 1) := by decide +kernel
theorem dL_law_512 : decode cL_law 512 = .ok (.iload 12, 2) := by decide +kernel
theorem dL_law_514 : decode cL_law 514 = .ok (.invokevirtual 91, 3) := by decide +kernel
theorem dL_law_517 : decode cL_law 517 = .ok (.ifCond .lt 7, 3) := by decide +kernel
theorem dL_law_520 : decode cL_law 520 = .ok (.iconst 1, 1) := by decide +kernel
theorem dL_law_521 : decode cL_law 521 = .ok (.goto 4, 3) := by decide +kernel
theorem dL_law_524 : decode cL_law 524 = .ok (.iconst 0, 1) := by decide +kernel
theorem dL_law_525 : decode cL_law 525 = .ok (.istore 13, 2) := by decide +kernel
theorem dL_law_527 : decode cL_law 527 = .ok (.iload 13, 2) := by decide +kernel
theorem dL_law_529 : decode cL_law 529 = .ok (.aload_n 2, 1) := by decide +kernel
theorem dL_law_530 : decode cL_law 530 = .ok (.iload 10, 2) := by decide +kernel
theorem dL_law_532 : decode cL_law 532 = .ok (.iconst 4, 1) := by decide +kernel
theorem dL_law_533 : decode cL_law 533 = .ok (.irem, 1) := by decide +kernel
theorem dL_law_534 : decode cL_law 534 = .ok (.iload 12, 2) := by decide +kernel
theorem dL_law_536 : decode cL_law 536 = .ok (.invokevirtual 91, 3) := by decide +kernel
theorem dL_law_539 : decode cL_law 539 = .ok (.ifCond .lt 7, 3) := by decide +kernel
theorem dL_law_542 : decode cL_law 542 = .ok (.iconst 1, 1) := by decide +kernel
end
section
theorem dL_law_543 : decode cL_law 543 = .ok (.goto 4, 3) := by decide +kernel
theorem dL_law_546 : decode cL_law 546 = .ok (.iconst 0, 1) := by decide +kernel
theorem dL_law_547 : decode cL_law 547 = .ok (.if_icmp .eq 5, 3) := by decide +kernel
theorem dL_law_550 : decode cL_law 550 = .ok (.iconst 0, 1) := by decide +kernel
theorem dL_law_551 : decode cL_law 551 = .ok (.ireturn, 1) := by decide +kernel
theorem dL_law_552 : decode cL_law 552 = .ok (.iload 13, 2) := by decide +kernel
theorem dL_law_554 : decode cL_law 554 = .ok (.ifCond .eq 26, 3) := by decide +kernel
theorem dL_law_557 : decode cL_law 557 = .ok (.aload 4, 2) := by decide +kernel
theorem dL_law_559 : decode cL_law 559 = .ok (.iconst 2, 1) := by decide +kernel
theorem dL_law_560 : decode cL_law 560 = .ok (.newarray .int, 2) := by decide +kernel
theorem dL_law_562 : decode cL_law 562 = .ok (.dup, 1) := by decide +kernel
theorem dL_law_563 : decode cL_law 563 = .ok (.iconst 0, 1) := by decide +kernel
theorem dL_law_564 : decode cL_law 564 = .ok (.iload 10, 2) := by decide +kernel
theorem dL_law_566 : decode cL_law 566 = .ok (.iconst 4, 1) := by decide +kernel
theorem dL_law_567 : decode cL_law 567 = .ok (.irem, 1) := by decide +kernel
theorem dL_law_568 : decode cL_law 568 = .ok (.iastore, 1) := by decide +kernel
theorem dL_law_569 : decode cL_law 569 = .ok (.dup, 1) := by decide +kernel
theorem dL_law_570 : decode cL_law 570 = .ok (.iconst 1, 1) := by decide +kernel
theorem dL_law_571 : decode cL_law 571 = .ok (.iload 12, 2) := by decide +kernel
theorem dL_law_573 : decode cL_law 573 = .ok (.iastore, 1) := by decide +kernel
theorem dL_law_574 : decode cL_law 574 = .ok (.invokeinterface 94 2, 5) := by decide +kernel
theorem dL_law_579 : decode cL_law 579 = .ok (.pop, 1) := by decide +kernel
theorem dL_law_580 : decode cL_law 580 = .ok (.iload 8, 2) := by decide +kernel
theorem dL_law_582 : decode cL_law 582 = .ok (.iconst 4, 1) := by decide +kernel
theorem dL_law_583 : decode cL_law 583 = .ok (.irem, 1) := by decide +kernel
theorem dL_law_584 : decode cL_law 584 = .ok (.iconst 3, 1) := by decide +kernel
theorem dL_law_585 : decode cL_law 585 = .ok (.if_icmp .ge 6, 3) := by decide +kernel
theorem dL_law_588 : decode cL_law 588 = .ok (.goto 342, 3) := by decide +kernel
theorem dL_law_591 : decode cL_law 591 = .ok (.iconst 0, 1) := by decide +kernel
theorem dL_law_592 : decode cL_law 592 = .ok (.istore 12, 2) := by decide +kernel
theorem dL_law_594 : decode cL_law 594 = .ok (.iload 12, 2) := by decide +kernel
theorem dL_law_596 : decode cL_law 596 = .ok (.iconst 4, 1) := by decide +kernel
theorem dL_law_597 : decode cL_law 597 = .ok (.if_icmp .ge 112, 3) := by decide +kernel
theorem dL_law_600 : decode cL_law 600 = .ok (.new 65, 3) := by decide +kernel
theorem dL_law_603 : decode cL_law 603 = .ok (.dup, 1) := by decide +kernel
theorem dL_law_604 : decode cL_law 604 = .ok (.invokespecial 67, 3) := by decide +kernel
theorem dL_law_607 : decode cL_law 607 = .ok (.astore 13, 2) := by decide +kernel
theorem dL_law_609 : decode cL_law 609 = .ok (.aload 4, 2) := by decide +kernel
theorem dL_law_611 : decode cL_law 611 = .ok (.invokeinterface 98 1, 5) := by decide +kernel
theorem dL_law_616 : decode cL_law 616 = .ok (.astore 14, 2) := by decide +kernel
theorem dL_law_618 : decode cL_law 618 = .ok (.aload 14, 2) := by decide +kernel
theorem dL_law_620 : decode cL_law 620 = .ok (.invokeinterface 102 1, 5) := by decide +kernel
theorem dL_law_625 : decode cL_law 625 = .ok (.ifCond .eq 48, 3) := by decide +kernel
theorem dL_law_628 : decode cL_law 628 = .ok (.aload 14, 2) := by decide +kernel
theorem dL_law_630 : decode cL_law 630 = .ok (.invokeinterface 108 1, 5) := by decide +kernel
theorem dL_law_635 : decode cL_law 635 = .ok (.checkcast 68, 3) := by decide +kernel
theorem dL_law_638 : decode cL_law 638 = .ok (.astore 15, 2) := by decide +kernel
theorem dL_law_640 : decode cL_law 640 = .ok (.aload_n 3, 1) := by decide +kernel
theorem dL_law_641 : decode cL_law 641 = .ok (.iload 12, 2) := by decide +kernel
theorem dL_law_643 : decode cL_law 643 = .ok (.iaload, 1) := by decide +kernel
theorem dL_law_644 : decode cL_law 644 = .ok (.aload 15, 2) := by decide +kernel
theorem dL_law_646 : decode cL_law 646 = .ok (.iconst 0, 1) := by decide +kernel
theorem dL_law_647 : decode cL_law 647 = .ok (.iaload, 1) := by decide +kernel
theorem dL_law_648 : decode cL_law 648 = .ok (.ishr, 1) := by decide +kernel
theorem dL_law_649 : decode cL_law 649 = .ok (.iconst 1, 1) := by decide +kernel
theorem dL_law_650 : decode cL_law 650 = .ok (.iand, 1) := by decide +kernel
theorem dL_law_651 : decode cL_law 651 = .ok (.iconst 1, 1) := by decide +kernel
theorem dL_law_652 : decode cL_law 652 = .ok (.if_icmp .ne 18, 3) := by decide +kernel
theorem dL_law_655 : decode cL_law 655 = .ok (.aload 13, 2) := by decide +kernel
theorem dL_law_657 : decode cL_law 657 = .ok (.aload 15, 2) := by decide +kernel
theorem dL_law_659 : decode cL_law 659 = .ok (.iconst 1, 1) := by decide +kernel
theorem dL_law_660 : decode cL_law 660 = .ok (.iaload, 1) := by decide +kernel
theorem dL_law_661 : decode cL_law 661 = .ok (.invokestatic 112, 3) := by decide +kernel
theorem dL_law_664 : decode cL_law 664 = .ok (.invokeinterface 94 2, 5) := by decide +kernel
theorem dL_law_669 : decode cL_law 669 = .ok (.pop, 1) := by decide +kernel
theorem dL_law_670 : decode cL_law 670 = .ok (.goto (-52), 3) := by decide +kernel
theorem dL_law_673 : decode cL_law 673 = .ok (.iconst 0, 1) := by decide +kernel
theorem dL_law_674 : decode cL_law 674 = .ok (.istore 14, 2) := by decide +kernel
theorem dL_law_676 : decode cL_law 676 = .ok (.iload 14, 2) := by decide +kernel
theorem dL_law_678 : decode cL_law 678 = .ok (.bipush 6, 2) := by decide +kernel
theorem dL_law_680 : decode cL_law 680 = .ok (.if_icmp .ge 23, 3) := by decide +kernel
theorem dL_law_683 : decode cL_law 683 = .ok (.aload 13, 2) := by decide +kernel
theorem dL_law_685 : decode cL_law 685 = .ok (.iconst 1, 1) := by decide +kernel
theorem dL_law_686 : decode cL_law 686 = .ok (.iload 14, 2) := by decide +kernel
theorem dL_law_688 : decode cL_law 688 = .ok (.ishl, 1) := by decide +kernel
theorem dL_law_689 : decode cL_law 689 = .ok (.invokestatic 116, 3) := by decide +kernel
theorem dL_law_692 : decode cL_law 692 = .ok (.ifCond .eq 5, 3) := by decide +kernel
theorem dL_law_695 : decode cL_law 695 = .ok (.iconst 0, 1) := by decide +kernel
theorem dL_law_696 : decode cL_law 696 = .ok (.ireturn, 1) := by decide +kernel
theorem dL_law_697 : decode cL_law 697 = .ok (.iinc 14 1, 3) := by decide +kernel
theorem dL_law_700 : decode cL_law 700 = .ok (.goto (-24), 3) := by decide +kernel
theorem dL_law_703 : decode cL_law 703 = .ok (.iinc 12 1, 3) := by decide +kernel
theorem dL_law_706 : decode cL_law 706 = .ok (.goto (-112), 3) := by decide +kernel
theorem dL_law_709 : decode cL_law 709 = .ok (.iconst 0, 1) := by decide +kernel
theorem dL_law_710 : decode cL_law 710 = .ok (.istore 12, 2) := by decide +kernel
theorem dL_law_712 : decode cL_law 712 = .ok (.iload 12, 2) := by decide +kernel
theorem dL_law_714 : decode cL_law 714 = .ok (.iload 7, 2) := by decide +kernel
theorem dL_law_716 : decode cL_law 716 = .ok (.if_icmp .ge 109, 3) := by decide +kernel
theorem dL_law_719 : decode cL_law 719 = .ok (.aload_n 1, 1) := by decide +kernel
theorem dL_law_720 : decode cL_law 720 = .ok (.bipush 10, 2) := by decide +kernel
theorem dL_law_722 : decode cL_law 722 = .ok (.iload 12, 2) := by decide +kernel
theorem dL_law_724 : decode cL_law 724 = .ok (.iadd, 1) := by decide +kernel
theorem dL_law_725 : decode cL_law 725 = .ok (.iconst 1, 1) := by decide +kernel
theorem dL_law_726 : decode cL_law 726 = .ok (.invokevirtual 120, 3) := by decide +kernel
theorem dL_law_729 : decode cL_law 729 = .ok (.iconst 1, 1) := by decide +kernel
theorem dL_law_730 : decode cL_law 730 = .ok (.if_icmp .ne 7, 3) := by decide +kernel
theorem dL_law_733 : decode cL_law 733 = .ok (.iconst 0, 1) := by decide +kernel
theorem dL_law_734 : decode cL_law 734 = .ok (.goto 13, 3) := by decide +kernel
theorem dL_law_737 : decode cL_law 737 = .ok (.aload_n 1, 1) := by decide +kernel
theorem dL_law_738 : decode cL_law 738 = .ok (.bipush 10, 2) := by decide +kernel
theorem dL_law_740 : decode cL_law 740 = .ok (.iload 12, 2) := by decide +kernel
theorem dL_law_742 : decode cL_law 742 = .ok (.iadd, 1) := by decide +kernel
theorem dL_law_743 : decode cL_law 743 = .ok (.iconst 0, 1) := by decide +kernel
theorem dL_law_744 : decode cL_law 744 = .ok (.invokevirtual 120, 3) := by decide +kernel
theorem dL_law_747 : decode cL_law 747 = .ok (.istore 13, 2) := by decide +kernel
theorem dL_law_749 : decode cL_law 749 = .ok (.iconst 0, 1) := by decide +kernel
theorem dL_law_750 : decode cL_law 750 = .ok (.istore 14, 2) := by decide +kernel
theorem dL_law_752 : decode cL_law 752 = .ok (.iload 14, 2) := by decide +kernel
theorem dL_law_754 : decode cL_law 754 = .ok (.bipush 6, 2) := by decide +kernel
theorem dL_law_756 : decode cL_law 756 = .ok (.if_icmp .ge 63, 3) := by decide +kernel
theorem dL_law_759 : decode cL_law 759 = .ok (.iload 14, 2) := by decide +kernel
theorem dL_law_761 : decode cL_law 761 = .ok (.iconst 1, 1) := by decide +kernel
theorem dL_law_762 : decode cL_law 762 = .ok (.iadd, 1) := by decide +kernel
theorem dL_law_763 : decode cL_law 763 = .ok (.istore 15, 2) := by decide +kernel
theorem dL_law_765 : decode cL_law 765 = .ok (.iload 15, 2) := by decide +kernel
theorem dL_law_767 : decode cL_law 767 = .ok (.bipush 6, 2) := by decide +kernel
theorem dL_law_769 : decode cL_law 769 = .ok (.if_icmp .ge 44, 3) := by decide +kernel
theorem dL_law_772 : decode cL_law 772 = .ok (.iload 13, 2) := by decide +kernel
theorem dL_law_774 : decode cL_law 774 = .ok (.iload 14, 2) := by decide +kernel
theorem dL_law_776 : decode cL_law 776 = .ok (.ishr, 1) := by decide +kernel
theorem dL_law_777 : decode cL_law 777 = .ok (.iload 13, 2) := by decide +kernel
theorem dL_law_779 : decode cL_law 779 = .ok (.iload 15, 2) := by decide +kernel
theorem dL_law_781 : decode cL_law 781 = .ok (.ishr, 1) := by decide +kernel
theorem dL_law_782 : decode cL_law 782 = .ok (.iand, 1) := by decide +kernel
theorem dL_law_783 : decode cL_law 783 = .ok (.iconst 1, 1) := by decide +kernel
theorem dL_law_784 : decode cL_law 784 = .ok (.iand, 1) := by decide +kernel
theorem dL_law_785 : decode cL_law 785 = .ok (.iconst 1, 1) := by decide +kernel
theorem dL_law_786 : decode cL_law 786 = .ok (.if_icmp .ne 21, 3) := by decide +kernel
theorem dL_law_789 : decode cL_law 789 = .ok (.aload_n 1, 1) := by decide +kernel
theorem dL_law_790 : decode cL_law 790 = .ok (.iload 14, 2) := by decide +kernel
theorem dL_law_792 : decode cL_law 792 = .ok (.iconst 1, 1) := by decide +kernel
theorem dL_law_793 : decode cL_law 793 = .ok (.invokevirtual 123, 3) := by decide +kernel
theorem dL_law_796 : decode cL_law 796 = .ok (.iload 15, 2) := by decide +kernel
theorem dL_law_798 : decode cL_law 798 = .ok (.ishr, 1) := by decide +kernel
theorem dL_law_799 : decode cL_law 799 = .ok (.iconst 1, 1) := by decide +kernel
theorem dL_law_800 : decode cL_law 800 = .ok (.iand, 1) := by decide +kernel
theorem dL_law_801 : decode cL_law 801 = .ok (.iconst 1, 1) := by decide +kernel
theorem dL_law_802 : decode cL_law 802 = .ok (.if_icmp .ne 5, 3) := by decide +kernel
theorem dL_law_805 : decode cL_law 805 = .ok (.iconst 0, 1) := by decide +kernel
theorem dL_law_806 : decode cL_law 806 = .ok (.ireturn, 1) := by decide +kernel
theorem dL_law_807 : decode cL_law 807 = .ok (.iinc 15 1, 3) := by decide +kernel
theorem dL_law_810 : decode cL_law 810 = .ok (.goto (-45), 3) := by decide +kernel
theorem dL_law_813 : decode cL_law 813 = .ok (.iinc 14 1, 3) := by decide +kernel
theorem dL_law_816 : decode cL_law 816 = .ok (.goto (-64), 3) := by decide +kernel
theorem dL_law_819 : decode cL_law 819 = .ok (.iinc 12 1, 3) := by decide +kernel
theorem dL_law_822 : decode cL_law 822 = .ok (.goto (-110), 3) := by decide +kernel
theorem dL_law_825 : decode cL_law 825 = .ok (.aload_n 1, 1) := by decide +kernel
theorem dL_law_826 : decode cL_law 826 = .ok (.bipush 6, 2) := by decide +kernel
theorem dL_law_828 : decode cL_law 828 = .ok (.invokevirtual 126, 3) := by decide +kernel
theorem dL_law_831 : decode cL_law 831 = .ok (.istore 12, 2) := by decide +kernel
theorem dL_law_833 : decode cL_law 833 = .ok (.bipush 6, 2) := by decide +kernel
theorem dL_law_835 : decode cL_law 835 = .ok (.newarray .int, 2) := by decide +kernel
theorem dL_law_837 : decode cL_law 837 = .ok (.astore 13, 2) := by decide +kernel
theorem dL_law_839 : decode cL_law 839 = .ok (.iconst 0, 1) := by decide +kernel
theorem dL_law_840 : decode cL_law 840 = .ok (.istore 14, 2) := by decide +kernel
theorem dL_law_842 : decode cL_law 842 = .ok (.iload 14, 2) := by decide +kernel
theorem dL_law_844 : decode cL_law 844 = .ok (.bipush 6, 2) := by decide +kernel
theorem dL_law_846 : decode cL_law 846 = .ok (.if_icmp .ge 21, 3) := by decide +kernel
theorem dL_law_849 : decode cL_law 849 = .ok (.aload 13, 2) := by decide +kernel
theorem dL_law_851 : decode cL_law 851 = .ok (.iload 14, 2) := by decide +kernel
theorem dL_law_853 : decode cL_law 853 = .ok (.aload_n 1, 1) := by decide +kernel
theorem dL_law_854 : decode cL_law 854 = .ok (.iload 14, 2) := by decide +kernel
theorem dL_law_856 : decode cL_law 856 = .ok (.iconst 1, 1) := by decide +kernel
theorem dL_law_857 : decode cL_law 857 = .ok (.invokevirtual 123, 3) := by decide +kernel
theorem dL_law_860 : decode cL_law 860 = .ok (.iastore, 1) := by decide +kernel
theorem dL_law_861 : decode cL_law 861 = .ok (.iinc 14 1, 3) := by decide +kernel
theorem dL_law_864 : decode cL_law 864 = .ok (.goto (-22), 3) := by decide +kernel
theorem dL_law_867 : decode cL_law 867 = .ok (.aload 13, 2) := by decide +kernel
theorem dL_law_869 : decode cL_law 869 = .ok (.aload 5, 2) := by decide +kernel
theorem dL_law_871 : decode cL_law 871 = .ok (.iload 6, 2) := by decide +kernel
theorem dL_law_873 : decode cL_law 873 = .ok (.iload 12, 2) := by decide +kernel
theorem dL_law_875 : decode cL_law 875 = .ok (.invokestatic 129, 3) := by decide +kernel
theorem dL_law_878 : decode cL_law 878 = .ok (.ifCond .ne 5, 3) := by decide +kernel
theorem dL_law_881 : decode cL_law 881 = .ok (.iconst 0, 1) := by decide +kernel
theorem dL_law_882 : decode cL_law 882 = .ok (.ireturn, 1) := by decide +kernel
theorem dL_law_883 : decode cL_law 883 = .ok (.iconst 0, 1) := by decide +kernel
theorem dL_law_884 : decode cL_law 884 = .ok (.istore 14, 2) := by decide +kernel
theorem dL_law_886 : decode cL_law 886 = .ok (.iload 14, 2) := by decide +kernel
theorem dL_law_888 : decode cL_law 888 = .ok (.iconst 1, 1) := by decide +kernel
theorem dL_law_889 : decode cL_law 889 = .ok (.iload 6, 2) := by decide +kernel
theorem dL_law_891 : decode cL_law 891 = .ok (.ishl, 1) := by decide +kernel
theorem dL_law_892 : decode cL_law 892 = .ok (.if_icmp .ge 38, 3) := by decide +kernel
theorem dL_law_895 : decode cL_law 895 = .ok (.iload 14, 2) := by decide +kernel
theorem dL_law_897 : decode cL_law 897 = .ok (.invokestatic 133, 3) := by decide +kernel
theorem dL_law_900 : decode cL_law 900 = .ok (.iload 12, 2) := by decide +kernel
theorem dL_law_902 : decode cL_law 902 = .ok (.invokestatic 133, 3) := by decide +kernel
theorem dL_law_905 : decode cL_law 905 = .ok (.if_icmp .ge 19, 3) := by decide +kernel
theorem dL_law_908 : decode cL_law 908 = .ok (.aload 13, 2) := by decide +kernel
theorem dL_law_910 : decode cL_law 910 = .ok (.aload 5, 2) := by decide +kernel
theorem dL_law_912 : decode cL_law 912 = .ok (.iload 6, 2) := by decide +kernel
theorem dL_law_914 : decode cL_law 914 = .ok (.iload 14, 2) := by decide +kernel
theorem dL_law_916 : decode cL_law 916 = .ok (.invokestatic 129, 3) := by decide +kernel
theorem dL_law_919 : decode cL_law 919 = .ok (.ifCond .eq 5, 3) := by decide +kernel
theorem dL_law_922 : decode cL_law 922 = .ok (.iconst 0, 1) := by decide +kernel
theorem dL_law_923 : decode cL_law 923 = .ok (.ireturn, 1) := by decide +kernel
theorem dL_law_924 : decode cL_law 924 = .ok (.iinc 14 1, 3) := by decide +kernel
theorem dL_law_927 : decode cL_law 927 = .ok (.goto (-41), 3) := by decide +kernel
theorem dL_law_930 : decode cL_law 930 = .ok (.iinc 8 1, 3) := by decide +kernel
theorem dL_law_933 : decode cL_law 933 = .ok (.goto (-803), 3) := by decide +kernel
theorem dL_law_936 : decode cL_law 936 = .ok (.aload_n 1, 1) := by decide +kernel
theorem dL_law_937 : decode cL_law 937 = .ok (.invokevirtual 136, 3) := by decide +kernel
theorem dL_law_940 : decode cL_law 940 = .ok (.ifCond .eq 14, 3) := by decide +kernel
theorem dL_law_943 : decode cL_law 943 = .ok (.aload_n 2, 1) := by decide +kernel
theorem dL_law_944 : decode cL_law 944 = .ok (.invokevirtual 136, 3) := by decide +kernel
theorem dL_law_947 : decode cL_law 947 = .ok (.ifCond .eq 7, 3) := by decide +kernel
theorem dL_law_950 : decode cL_law 950 = .ok (.iconst 1, 1) := by decide +kernel
theorem dL_law_951 : decode cL_law 951 = .ok (.goto 4, 3) := by decide +kernel
theorem dL_law_954 : decode cL_law 954 = .ok (.iconst 0, 1) := by decide +kernel
theorem dL_law_955 : decode cL_law 955 = .ok (.ireturn, 1) := by decide +kernel
theorem dL_isShut_0 : decode cL_isShut 0 = .ok (.bipush 6, 2) := by decide +kernel
theorem dL_isShut_2 : decode cL_isShut 2 = .ok (.newarray .int, 2) := by decide +kernel
theorem dL_isShut_4 : decode cL_isShut 4 = .ok (.dup, 1) := by decide +kernel
theorem dL_isShut_5 : decode cL_isShut 5 = .ok (.iconst 0, 1) := by decide +kernel
theorem dL_isShut_6 : decode cL_isShut 6 = .ok (.iconst 1, 1) := by decide +kernel
theorem dL_isShut_7 : decode cL_isShut 7 = .ok (.iastore, 1) := by decide +kernel
theorem dL_isShut_8 : decode cL_isShut 8 = .ok (.dup, 1) := by decide +kernel
theorem dL_isShut_9 : decode cL_isShut 9 = .ok (.iconst 1, 1) := by decide +kernel
theorem dL_isShut_10 : decode cL_isShut 10 = .ok (.iconst 2, 1) := by decide +kernel
theorem dL_isShut_11 : decode cL_isShut 11 = .ok (.iastore, 1) := by decide +kernel
theorem dL_isShut_12 : decode cL_isShut 12 = .ok (.dup, 1) := by decide +kernel
theorem dL_isShut_13 : decode cL_isShut 13 = .ok (.iconst 2, 1) := by decide +kernel
theorem dL_isShut_14 : decode cL_isShut 14 = .ok (.iconst 4, 1) := by decide +kernel
theorem dL_isShut_15 : decode cL_isShut 15 = .ok (.iastore, 1) := by decide +kernel
theorem dL_isShut_16 : decode cL_isShut 16 = .ok (.dup, 1) := by decide +kernel
theorem dL_isShut_17 : decode cL_isShut 17 = .ok (.iconst 3, 1) := by decide +kernel
theorem dL_isShut_18 : decode cL_isShut 18 = .ok (.bipush 8, 2) := by decide +kernel
theorem dL_isShut_20 : decode cL_isShut 20 = .ok (.iastore, 1) := by decide +kernel
theorem dL_isShut_21 : decode cL_isShut 21 = .ok (.dup, 1) := by decide +kernel
theorem dL_isShut_22 : decode cL_isShut 22 = .ok (.iconst 4, 1) := by decide +kernel
theorem dL_isShut_23 : decode cL_isShut 23 = .ok (.bipush 16, 2) := by decide +kernel
theorem dL_isShut_25 : decode cL_isShut 25 = .ok (.iastore, 1) := by decide +kernel
theorem dL_isShut_26 : decode cL_isShut 26 = .ok (.dup, 1) := by decide +kernel
theorem dL_isShut_27 : decode cL_isShut 27 = .ok (.iconst 5, 1) := by decide +kernel
theorem dL_isShut_28 : decode cL_isShut 28 = .ok (.bipush 32, 2) := by decide +kernel
theorem dL_isShut_30 : decode cL_isShut 30 = .ok (.iastore, 1) := by decide +kernel
theorem dL_isShut_31 : decode cL_isShut 31 = .ok (.astore 4, 2) := by decide +kernel
theorem dL_isShut_33 : decode cL_isShut 33 = .ok (.iconst 0, 1) := by decide +kernel
theorem dL_isShut_34 : decode cL_isShut 34 = .ok (.istore 5, 2) := by decide +kernel
theorem dL_isShut_36 : decode cL_isShut 36 = .ok (.iload 5, 2) := by decide +kernel
theorem dL_isShut_38 : decode cL_isShut 38 = .ok (.bipush 6, 2) := by decide +kernel
theorem dL_isShut_40 : decode cL_isShut 40 = .ok (.if_icmp .ge 95, 3) := by decide +kernel
theorem dL_isShut_43 : decode cL_isShut 43 = .ok (.iconst 0, 1) := by decide +kernel
theorem dL_isShut_44 : decode cL_isShut 44 = .ok (.istore 6, 2) := by decide +kernel
theorem dL_isShut_46 : decode cL_isShut 46 = .ok (.iload 6, 2) := by decide +kernel
theorem dL_isShut_48 : decode cL_isShut 48 = .ok (.iload_n 2, 1) := by decide +kernel
theorem dL_isShut_49 : decode cL_isShut 49 = .ok (.if_icmp .ge 80, 3) := by decide +kernel
theorem dL_isShut_52 : decode cL_isShut 52 = .ok (.iload_n 3, 1) := by decide +kernel
theorem dL_isShut_53 : decode cL_isShut 53 = .ok (.iload 6, 2) := by decide +kernel
theorem dL_isShut_55 : decode cL_isShut 55 = .ok (.ishr, 1) := by decide +kernel
theorem dL_isShut_56 : decode cL_isShut 56 = .ok (.iconst 1, 1) := by decide +kernel
theorem dL_isShut_57 : decode cL_isShut 57 = .ok (.iand, 1) := by decide +kernel
theorem dL_isShut_58 : decode cL_isShut 58 = .ok (.iconst 1, 1) := by decide +kernel
theorem dL_isShut_59 : decode cL_isShut 59 = .ok (.if_icmp .ne 6, 3) := by decide +kernel
theorem dL_isShut_62 : decode cL_isShut 62 = .ok (.goto 61, 3) := by decide +kernel
theorem dL_isShut_65 : decode cL_isShut 65 = .ok (.aload 4, 2) := by decide +kernel
theorem dL_isShut_67 : decode cL_isShut 67 = .ok (.aload_n 1, 1) := by decide +kernel
theorem dL_isShut_68 : decode cL_isShut 68 = .ok (.iload 6, 2) := by decide +kernel
theorem dL_isShut_70 : decode cL_isShut 70 = .ok (.aaload, 1) := by decide +kernel
theorem dL_isShut_71 : decode cL_isShut 71 = .ok (.iconst 0, 1) := by decide +kernel
theorem dL_isShut_72 : decode cL_isShut 72 = .ok (.iaload, 1) := by decide +kernel
theorem dL_isShut_73 : decode cL_isShut 73 = .ok (.iaload, 1) := by decide +kernel
theorem dL_isShut_74 : decode cL_isShut 74 = .ok (.aload 4, 2) := by decide +kernel
theorem dL_isShut_76 : decode cL_isShut 76 = .ok (.aload_n 1, 1) := by decide +kernel
theorem dL_isShut_77 : decode cL_isShut 77 = .ok (.iload 6, 2) := by decide +kernel
theorem dL_isShut_79 : decode cL_isShut 79 = .ok (.aaload, 1) := by decide +kernel
theorem dL_isShut_80 : decode cL_isShut 80 = .ok (.iconst 1, 1) := by decide +kernel
theorem dL_isShut_81 : decode cL_isShut 81 = .ok (.iaload, 1) := by decide +kernel
theorem dL_isShut_82 : decode cL_isShut 82 = .ok (.iaload, 1) := by decide +kernel
theorem dL_isShut_83 : decode cL_isShut 83 = .ok (.ior, 1) := by decide +kernel
theorem dL_isShut_84 : decode cL_isShut 84 = .ok (.istore 7, 2) := by decide +kernel
theorem dL_isShut_86 : decode cL_isShut 86 = .ok (.iconst 0, 1) := by decide +kernel
theorem dL_isShut_87 : decode cL_isShut 87 = .ok (.istore 8, 2) := by decide +kernel
theorem dL_isShut_89 : decode cL_isShut 89 = .ok (.iload 8, 2) := by decide +kernel
theorem dL_isShut_91 : decode cL_isShut 91 = .ok (.bipush 6, 2) := by decide +kernel
theorem dL_isShut_93 : decode cL_isShut 93 = .ok (.if_icmp .ge 30, 3) := by decide +kernel
theorem dL_isShut_96 : decode cL_isShut 96 = .ok (.iload 7, 2) := by decide +kernel
theorem dL_isShut_98 : decode cL_isShut 98 = .ok (.iload 8, 2) := by decide +kernel
theorem dL_isShut_100 : decode cL_isShut 100 = .ok (.ishr, 1) := by decide +kernel
theorem dL_isShut_101 : decode cL_isShut 101 = .ok (.iconst 1, 1) := by decide +kernel
theorem dL_isShut_102 : decode cL_isShut 102 = .ok (.iand, 1) := by decide +kernel
theorem dL_isShut_103 : decode cL_isShut 103 = .ok (.iconst 1, 1) := by decide +kernel
theorem dL_isShut_104 : decode cL_isShut 104 = .ok (.if_icmp .ne 13, 3) := by decide +kernel
theorem dL_isShut_107 : decode cL_isShut 107 = .ok (.aload 4, 2) := by decide +kernel
theorem dL_isShut_109 : decode cL_isShut 109 = .ok (.iload 8, 2) := by decide +kernel
theorem dL_isShut_111 : decode cL_isShut 111 = .ok (.dup2, 1) := by decide +kernel
theorem dL_isShut_112 : decode cL_isShut 112 = .ok (.iaload, 1) := by decide +kernel
theorem dL_isShut_113 : decode cL_isShut 113 = .ok (.iload 7, 2) := by decide +kernel
theorem dL_isShut_115 : decode cL_isShut 115 = .ok (.ior, 1) := by decide +kernel
theorem dL_isShut_116 : decode cL_isShut 116 = .ok (.iastore, 1) := by decide +kernel
theorem dL_isShut_117 : decode cL_isShut 117 = .ok (.iinc 8 1, 3) := by decide +kernel
theorem dL_isShut_120 : decode cL_isShut 120 = .ok (.goto (-31), 3) := by decide +kernel
theorem dL_isShut_123 : decode cL_isShut 123 = .ok (.iinc 6 1, 3) := by decide +kernel
theorem dL_isShut_126 : decode cL_isShut 126 = .ok (.goto (-80), 3) := by decide +kernel
theorem dL_isShut_129 : decode cL_isShut 129 = .ok (.iinc 5 1, 3) := by decide +kernel
theorem dL_isShut_132 : decode cL_isShut 132 = .ok (.goto (-96), 3) := by decide +kernel
theorem dL_isShut_135 : decode cL_isShut 135 = .ok (.iconst 0, 1) := by decide +kernel
theorem dL_isShut_136 : decode cL_isShut 136 = .ok (.istore 5, 2) := by decide +kernel
theorem dL_isShut_138 : decode cL_isShut 138 = .ok (.iload 5, 2) := by decide +kernel
theorem dL_isShut_140 : decode cL_isShut 140 = .ok (.bipush 6, 2) := by decide +kernel
theorem dL_isShut_142 : decode cL_isShut 142 = .ok (.if_icmp .ge 24, 3) := by decide +kernel
theorem dL_isShut_145 : decode cL_isShut 145 = .ok (.aload 4, 2) := by decide +kernel
theorem dL_isShut_147 : decode cL_isShut 147 = .ok (.iload 5, 2) := by decide +kernel
theorem dL_isShut_149 : decode cL_isShut 149 = .ok (.iaload, 1) := by decide +kernel
theorem dL_isShut_150 : decode cL_isShut 150 = .ok (.aload_n 0, 1) := by decide +kernel
theorem dL_isShut_151 : decode cL_isShut 151 = .ok (.iload 5, 2) := by decide +kernel
theorem dL_isShut_153 : decode cL_isShut 153 = .ok (.iaload, 1) := by decide +kernel
theorem dL_isShut_154 : decode cL_isShut 154 = .ok (.iand, 1) := by decide +kernel
theorem dL_isShut_155 : decode cL_isShut 155 = .ok (.ifCond .eq 5, 3) := by decide +kernel
theorem dL_isShut_158 : decode cL_isShut 158 = .ok (.iconst 0, 1) := by decide +kernel
theorem dL_isShut_159 : decode cL_isShut 159 = .ok (.ireturn, 1) := by decide +kernel
theorem dL_isShut_160 : decode cL_isShut 160 = .ok (.iinc 5 1, 3) := by decide +kernel
theorem dL_isShut_163 : decode cL_isShut 163 = .ok (.goto (-25), 3) := by decide +kernel
theorem dL_isShut_166 : decode cL_isShut 166 = .ok (.iconst 1, 1) := by decide +kernel
theorem dL_isShut_167 : decode cL_isShut 167 = .ok (.ireturn, 1) := by decide +kernel
end
section
/-! THE CLAIM OUT OF ONE WALK OF THE LAW'S BODY. Your part is whole_start (and what it stands on); all else here is the same for every law, but numbers. -/
def R_law : String := "DegreewallLaw"
def lw_P (b : Addr) (xs : List Int32) (args : Array Value) (s : State) : Prop := args = #[.ref b] ∧ s.IntsAt b xs ∧ xs.length ≤ 260 ∧ (Jvm.Cond.and given_1 narrow_1).before args s = true
def lw_Q (_ : Array Value) (s : State) (o : Outcome) (t : State) : Prop := o = .returned (some (.int 1)) ∧ Framed s o t [] 600130 7301080
def lw_Z (below : List Frame) (a : Array Value) (s : State) : State → Prop := fun t => ∃ o, t.status = .running ∧ Ended t below o ∧ lw_Q a s o t
/-- the law's own end, with 1 on the stack, nothing written that was there before, its room as the claim has it -/
theorem lw_ret {p : Program} {l : Launch} {e : Env} {s : State} {m : MethodId} {below : List Frame} {meth : Method} {c : Code} {b : Nat} (hx : p.tables.exec = Jvm.exec) (hb : c.code = code) (hr : meth.sig.returnType = ret) (hlocks : meth.locks = false) {pc : Nat} {H : Heap} {ls : Array Slot} (hdg : decode code pc = .ok (.ireturn, 1)) : W p l e room_1 s m #[Value.ref b] below meth c H [] 600130 7301080 (lw_Z below #[Value.ref b] s) (F0 m pc ls [.int 1]) := by
  intro T hT X
  obtain ⟨fs, hret, hrun, hended, hW, hframe⟩ := X.leave (v := some (.int 1)) (hlocks := hlocks) (fun h => by rw [hr] at h; cases h)
  have hmeth' : T.vm.method? m = some meth := X.method'
  refine ⟨T.setFrames fs, ?_, .returned (some (.int 1)), hrun, hended, rfl, ⟨_, rfl⟩, hW, hframe⟩
  jvm_step X.here [X.here.top, hx, hb, hdg, hmeth', hr, ret, narrow_b1]
  (try refine ⟨rfl, ?_⟩); (try refine ⟨rfl, ?_⟩)
  first | (intro acts; rw [hret _ acts rfl rfl rfl]) | rw [hret _ _ rfl rfl rfl]
  exact Steps.refl _
/-- what holds at the law's entry: the machine, the code, the tables' words (any of lw_tbl by 'hts w (by decide +kernel)'), the script of L ints xs at the cell b, what the Statement gives of the start (any of its parts by flat_of_before) -/
def lw_At (p : Program) (s : State) (m : MethodId) (meth : Method) (c : Code) (b L : Nat) (xs : Nat → Int32) : Prop :=
  p.tables.exec = Jvm.exec ∧ c.code = code ∧ meth.sig.returnType = ret ∧ c.maxLocals = 16 ∧ s.vm.findClass R_law = some m.cls ∧ (∀ w ∈ lw_tbl, w.before #[Value.ref b] s = true) ∧ va_X b L xs s s.heap ∧ b < s.heap.size ∧ meth.locks = false ∧ (Jvm.Cond.and given_1 narrow_1).before #[Value.ref b] s = true
-- ===== the base: one form of contract, its opening, its calls, its ends =====
abbrev gG : Type := (Nat → ClassId) × (Nat → Nat → Nat) × (Nat → ClassId) × (Nat → Nat)
abbrev gD (G : gG) : va_G := (G.1, G.2.1)
abbrev gT (G : gG) : List (ClassId × FieldType) := [(G.2.2.1 0, .int), (G.2.2.1 1, .array .int), (G.2.2.1 2, .long), (G.2.2.1 3, .array .long), (G.2.2.1 4, .object "java/lang/Object")]
/-- the links of nest mates -/
def gNm : List (String × Nat × MethodName × String) := [(RX6, 18, yX5_init, RX6), (RX6, 25, yX2_init, RX6), (RX6, 32, yX4_init, RX6), (RX6, 9, yX0_init, RX6), (RX0, 11, yX1_init, RX6), (RX0, 47, yX6_contains, RX6), (RX1, 19, yX6_contains, RX6), (RX2, 23, yX1_init, RX6), (RX2, 41, yX6_contains, RX6), (RX3, 28, yX6_contains, RX6), (RX4, 102, yX6_contains, RX6), (RX4, 17, yX1_init, RX6), (RX4, 33, yX3_init, RX6), (RX5, 22, yX6_contains, RX6)]
/-- a class of arrays over an array class stays known -/
theorem g_over {ty : FieldType} {u U : State} (hv : u.vm = U.vm) (h : (Cond.arrayOver ty).before #[] u = true) : (Cond.arrayOver ty).before #[] U = true := by
  unfold Cond.before Cond.holds at h ⊢
  simp only [Cond.value] at h ⊢
  rw [← hv]
  exact h
theorem gAOA {t : FieldType} {s U : State} (hW : s.WarmedH U.vm) (h : va_AOA t s) : va_AOA t U := g_over (rfl : (s.setVm U.vm).vm = U.vm) (by rw [Cond.arrayOver_setVmC hW.alike]; exact h)
theorem gAO {t : String} {s U : State} (hW : s.WarmedH U.vm) (h : va_AO t s) : va_AO t U := g_over (rfl : (s.setVm U.vm).vm = U.vm) (by rw [Cond.arrayOver_setVmC hW.alike]; exact h)
/-- the calls through an interface -/
def gFw : List (String × MethodName × MethodName) := [(RJx4a65c, ⟨RJxbd725, "size", "()I"⟩, yJx4a65c_size_8abf5), (RJx4a65c, ⟨RJxbd725, "get", "(I)Ljava/lang/Object;"⟩, yJx4a65c_get_915e3), (RJx4a65c, ⟨RJxbd725, "add", "(Ljava/lang/Object;)Z"⟩, yJx4a65c_add_9ea2d), (RJx4a65c, ⟨RJxbd725, "iterator", "()Ljava/util/Iterator;"⟩, yJx4a65c_iterator_32c93), (RJx35411, ⟨RJx4d0d8, "hasNext", "()Z"⟩, yJx35411_hasNext_aae02), (RJx35411, ⟨RJx4d0d8, "next", "()Ljava/lang/Object;"⟩, yJx35411_next_0502b)]
def gCs : List (String × String) := [("[I", "java/lang/Object"), (RJ6, "java/lang/Object")]
/-- ArrayList's first array, the cache of Integers, the class object of Object[]: what the JDK holds -/
def gJ (G : gG) (A : Nat → Prop) (U : State) (H : Heap) : Prop := ((va_AOA .int U ∧ va_AOA .long U ∧ va_AO "java/lang/Object" U) ∧ (va_Mi "[Ljava/lang/Object;" (G.2.2.2 2) U ∧ va_Dc U)) ∧ ((∀ q ∈ gFw, va_Fw q.1 q.2.1 q.2.2 U) ∧ (∀ q ∈ gCs, va_Nw (.castable q.1 q.2) U)) ∧ (va_Z RJx4a65c "DEFAULTCAPACITY_EMPTY_ELEMENTDATA" "[Ljava/lang/Object;" (.ref (G.2.2.2 0)) A U H ∧ va_Z RJxabbfe "high" "I" (.int 127) A U H ∧ va_Z RJxabbfe "cache" "[Ljava/lang/Integer;" (.ref (G.2.2.2 1)) A U H) ∧ (va_T (.object "java/lang/Object") (G.2.2.2 0) 0 (fun _ => .null) A U H ∧ va_T (.object RJ6) (G.2.2.2 1) 256 (fun k => .ref (G.2.2.2 (k + 3))) A U H ∧ vb_C (fun k => G.2.2.2 (k + 3)) A U H)
theorem gFw_ok : ∀ q ∈ gFw, q.2.1.cls ≠ "java/lang/invoke/MethodHandle" ∧ q.2.1.cls ≠ "java/lang/invoke/VarHandle" := by decide
theorem gJ.go {G : gG} {A B : Nat → Prop} {s U : State} {H H1 : Heap} (h : gJ G A s H) (hW : s.WarmedH U.vm) (hq : ∀ a, a < H.size → ¬ A a → H1[a]? = H[a]?) (hB : ∀ q, B q → A q) : gJ G B U H1 := by
  obtain ⟨⟨⟨a1, a2, a3⟩, b1, b2⟩, ⟨c1, c2⟩, ⟨d1, d2, d3⟩, e1, e2, e3⟩ := h
  exact ⟨⟨⟨gAOA hW a1, gAOA hW a2, gAO hW a3⟩, b1.moved hW.alike, b2.moved hW.alike⟩, ⟨fun q hq => (c1 q hq).moved (gFw_ok q hq) hW.alike, fun q hq => va_Nw.warmC hW (c2 q hq)⟩, ⟨((d1.kept hq).narrow hB).moved hW.alike, ((d2.kept hq).narrow hB).moved hW.alike, ((d3.kept hq).narrow hB).moved hW.alike⟩, ((e1.kept hq).narrow hB).moved hW.alike, ((e2.kept hq).narrow hB).moved hW.alike, ((e3.kept hq).narrow hB).moved hW.alike⟩
theorem gJ.calling {G : gG} {A : Nat → Prop} {U : State} {g : JFrame} {mk : MethodId} {a : Array Value} {H : Heap} (h : gJ G A U H) : gJ G A (U.calling g mk a) H := by
  obtain ⟨⟨⟨a1, a2, a3⟩, b1, b2⟩, ⟨c1, c2⟩, ⟨d1, d2, d3⟩, e1, e2, e3⟩ := h
  have hv : U.vm.Alike (U.calling g mk a).vm := Vm.Alike.refl U.vm
  exact ⟨⟨⟨g_over rfl a1, g_over rfl a2, g_over rfl a3⟩, b1.moved hv, b2.moved hv⟩, ⟨fun q hq => (c1 q hq).moved (gFw_ok q hq) hv, fun q hq => va_Nw.same rfl (show U.vm = (U.calling g mk a).vm from rfl) (c2 q hq)⟩, ⟨d1.moved hv, d2.moved hv, d3.moved hv⟩, e1.moved hv, e2.moved hv, e3.moved hv⟩
/-- the environment: what stays so, whatever is called -/
def gE (G : gG) (A : Nat → Prop) (U : State) (H : Heap) : Prop := ((∀ q ∈ gNm, va_Nw (.methodLinkNest q.1 q.2.1 q.2.2.1 q.2.2.2) U) ∧ va_Nw (.fieldLinkNest RJx35411 28 RJx4a65c "size" "I" RJx4a65c) U) ∧ gJ G A U H
theorem gE.go {G : gG} {A B : Nat → Prop} {s U : State} (h : gE G A s s.heap) (hW : s.WarmedH U.vm) (hq : ∀ a, a < s.heap.size → ¬ A a → U.heap[a]? = s.heap[a]?) (hB : ∀ q, B q → A q) : gE G B U U.heap := ⟨⟨fun q hq => va_Nw.warmM hW (h.1.1 q hq), va_Nw.warmF hW h.1.2⟩, h.2.go hW hq hB⟩
theorem gE.calling {G : gG} {A : Nat → Prop} {U : State} {g : JFrame} {mk : MethodId} {a : Array Value} (h : gE G A U U.heap) : gE G A (U.calling g mk a) (U.calling g mk a).heap := ⟨⟨fun q hq => va_Nw.same rfl (show U.vm = (U.calling g mk a).vm from rfl) (h.1.1 q hq), va_Nw.same rfl (show U.vm = (U.calling g mk a).vm from rfl) h.1.2⟩, h.2.calling⟩
theorem gE.nest {G : gG} {A : Nat → Prop} {U : State} {H : Heap} (h : gE G A U H) (i : Nat) {q : String × Nat × MethodName × String} (hq : gNm[i]? = some q) : va_Nw (.methodLinkNest q.1 q.2.1 q.2.2.1 q.2.2.2) U := h.1.1 q (List.mem_of_getElem? hq)
def gPc (G : gG) (av : List Value) (ws : va_W) (sz : Nat) : Array Value → State → Prop := va_Pc av (fun U => U.heap.size = sz ∧ va_P (gD G) vwCl ws U.heap ∧ va_K (gD G) vwCl (gT G) U ∧ va_D (fun _ => True) ws ∧ gE G (va_A ws sz) U U.heap)
theorem gPc.blind {G : gG} {av : List Value} {ws : va_W} {sz : Nat} : FrameBlind (gPc G av ws sz) := fun a U g mk h => by
  obtain ⟨e, h1, h2, h3, h4, h5⟩ := h
  exact ⟨e, h1, h2, va_K.moved (u := U) (U := U.calling g mk a) (Vm.Alike.refl U.vm) h3, h4, h5.calling⟩
def gQc {S : Type} (G : gG) (A : Nat → Prop) (post : S → Prop) (rv : S → Option Value) (w1 : S → va_W) : Array Value → State → Outcome → State → Prop := fun _ st oc t => (∃ u : S, oc = .returned (rv u) ∧ post u ∧ va_P (gD G) vwCl (w1 u) t.heap ∧ va_D A (w1 u)) ∧ va_F A st t
/-- THE CONTRACT: from a world ws, the arguments av: it returns rv u and leaves w1 u, for some u with post u; what it makes stands in rm -/
def gMet {S : Type} (l : Launch) (G : gG) (y : MethodName) (wds : List Cond) (rm : Room) (av : List Value) (ws : va_W) (post : S → Prop) (rv : S → Option Value) (w1 : S → va_W) : Prop := ∀ sz : Nat, Met l y wds rm (gPc G av ws sz) (gQc G (va_A ws sz) post rv w1) rm.cells rm.slots (va_A ws sz)
theorem gOf {S : Type} {l : Launch} {G : gG} {y : MethodName} {wds wds' : List Cond} {rm : Room} {av : List Value} {ws : va_W} {post : S → Prop} {rv : S → Option Value} {w1 : S → va_W} {cc : ByteArray} {maxL : Nat} {ret : Option FieldType} (hy : plainName y.cls = true) (hw : wds = Cond.code y cc maxL ret :: wds') (hsl : (lg_sl av).length ≤ maxL)
    (body : ∀ (p : Program) (e : Env) (s : State) (m : MethodId) (args : Array Value) (below : List Frame) (meth : Method) (c : Code) (A : Nat → Prop) (ls : Array Slot) (H : Heap) (locs : List Loc) (Q : State → Prop), Q = MQ below (gQc G A post rv w1) args s rm.cells rm.slots A → p.tables.exec = Jvm.exec → c.code = cc → c.maxLocals = maxL → meth.sig.returnType = ret → s.vm.findClass y.cls = some m.cls → (∀ w ∈ wds, w.before args s = true) → meth.locks = false → meth.name = y.name → va_K (gD G) vwCl (gT G) s → va_P (gD G) vwCl ws H → va_D A ws → va_S A s.heap H locs → (∀ q, s.heap.size ≤ q → A q) → gE G A s s.heap → lv_has ls maxL (lv_args 0 av) →
      W p l e rm s m args below meth c H locs 0 0 Q (F0 m 0 ls [])) : gMet l G y wds rm av ws post rv w1 := by
  intro sz
  refine Met.ofW (cc := cc) (maxL := maxL) (ret := ret) hy hw ?_
  intro p e s m args below meth c s₁ B hml hv
  obtain ⟨rfl, hsz, hP, hK, hD0, hE⟩ := hv
  subst hsz
  have hl := lv_entry av hsl
  rw [lg_entry_eq]
  exact body p e s m _ below meth c _ _ _ _ _ rfl B.exec B.bytes hml B.returns (findClass_of_methodNamed B.named) (atoms_spec (ws := wds) B.pre) B.notSynchronized (name_of_methodNamed B.named B.method).1 hK hP hD0.self va_S.rf (fun q h => Or.inr h) hE hl
theorem g_fm {ws wc : va_W} {is : List Nat} (h : is.map (fun i => ws[i]?) = wc.map some) : is.filterMap (fun i => ws[i]?) = wc := by
  have h1 : is.filterMap (fun i => ws[i]?) = (is.map (fun i => ws[i]?)).filterMap id := by simp [List.filterMap_map]
  rw [h1, h]
  simp [List.filterMap_map]
section GC
variable {p : Program} {l : Launch} {e : Env} {R : Room} {s : State} {m : MethodId} {args : Array Value} {below : List Frame} {meth : Method} {c : Code} {H : Heap} {locs : List Loc} {cells slots : Nat} {Q : State → Prop}
variable {S : Type} {G : gG} {A : Nat → Prop} {ws wc wr : va_W} {post : S → Prop} {rv : S → Option Value} {w1 : S → va_W} {pc : Nat} {ls : Array Slot} {st0 rest : List Value}
theorem g_keep {A1 : Nat → Prop} {st₀ t T' : State} {L : List Loc} {H0 : Heap} (h0 : st₀.heap = H) (e1 : T'.heap = t.heap) (hS : va_S A H0 H locs) (hf : ∀ q, A1 q → A q) (hL : ∀ q ∈ L, A1 q.base) (hF : va_F A1 st₀ t) : va_S A H0 T'.heap (locs ++ L) ∧ ∀ q : Nat, q < H.size → ¬ A1 q → T'.heap[q]? = H[q]? := by
  obtain ⟨hz, hk⟩ := hF
  rw [h0] at hz hk
  exact ⟨⟨Nat.le_trans hS.1 (by rw [e1]; exact hz), fun q h1 h2 => by rw [e1, hk q (Nat.lt_of_lt_of_le h1 hS.1) (fun z => h2 (hf q z))]; exact hS.2.1 q h1 h2, fun q hq => by
      rcases List.mem_append.mp hq with h | h
      · exact hS.2.2 q h
      · exact hf _ (hL q h)⟩, fun q h1 h2 => by rw [e1]; exact hk q h1 h2⟩
theorem gCall {a : Array Value} {mc ms : Nat} (hr : va_Run p l e R s m args below meth c H locs cells slots mc ms (F0 m pc ls st0) rest (gQc G (va_A wc H.size) post rv w1 a) (va_A wc H.size)) (hP : va_P (gD G) vwCl ws H) (hD : va_D A ws) (hS : va_S A s.heap H locs) (hA : ∀ q, s.heap.size ≤ q → A q) (isC isR : List Nat) (hC : isC.map (fun i => ws[i]?) = wc.map some) (hR : isR.map (fun i => ws[i]?) = wr.map some) (hnR : va_nd isR = true) (hdis : ∀ i ∈ isR, i ∉ isC)
    (kk : ∀ (u : S) (H1 : Heap) (locs1 : List Loc), post u → va_P (gD G) vwCl (wr ++ w1 u) H1 → va_D A (wr ++ w1 u) → va_S A s.heap H1 locs1 → W p l e R s m args below meth c H1 locs1 (cells + mc) (slots + ms) Q (F0 m (pc + 3) ls ((rv u).toList ++ rest))) : W p l e R s m args below meth c H locs cells slots Q (F0 m pc ls st0) := by
  have hf := va_free hD hS hA isC hC
  intro T hT X
  obtain ⟨v, st₀, t, T', L, h0, X', hL, e1, e2, ⟨⟨u, hv, hpu, hP1, hD1⟩, hF⟩, st⟩ := hr T hT X
  cases hv
  obtain ⟨k1, k2⟩ := g_keep h0 e1 hS hf hL hF
  have hP1' : va_P (gD G) vwCl (w1 u) T'.heap := by rw [e1]; exact hP1
  obtain ⟨hP2, hD2⟩ := va_join hP hD isC isR hC hR hnR hdis k2 hf hP1' hD1
  obtain ⟨t2, a1, b1⟩ := kk u T'.heap (locs ++ L) hpu hP2 hD2 k1 T' rfl X'
  exact ⟨t2, st t2 a1, b1⟩
theorem gCall5 {a : Array Value} {mc ms : Nat} (hr : va_Run5 p l e R s m args below meth c H locs cells slots mc ms (F0 m pc ls st0) rest (gQc G (va_A wc H.size) post rv w1 a) (va_A wc H.size)) (hP : va_P (gD G) vwCl ws H) (hD : va_D A ws) (hS : va_S A s.heap H locs) (hA : ∀ q, s.heap.size ≤ q → A q) (isC isR : List Nat) (hC : isC.map (fun i => ws[i]?) = wc.map some) (hR : isR.map (fun i => ws[i]?) = wr.map some) (hnR : va_nd isR = true) (hdis : ∀ i ∈ isR, i ∉ isC)
    (kk : ∀ (u : S) (H1 : Heap) (locs1 : List Loc), post u → va_P (gD G) vwCl (wr ++ w1 u) H1 → va_D A (wr ++ w1 u) → va_S A s.heap H1 locs1 → W p l e R s m args below meth c H1 locs1 (cells + mc) (slots + ms) Q (F0 m (pc + 5) ls ((rv u).toList ++ rest))) : W p l e R s m args below meth c H locs cells slots Q (F0 m pc ls st0) := by
  have hf := va_free hD hS hA isC hC
  intro T hT X
  obtain ⟨v, st₀, t, T', L, h0, X', hL, e1, e2, ⟨⟨u, hv, hpu, hP1, hD1⟩, hF⟩, st⟩ := hr T hT X
  cases hv
  obtain ⟨k1, k2⟩ := g_keep h0 e1 hS hf hL hF
  have hP1' : va_P (gD G) vwCl (w1 u) T'.heap := by rw [e1]; exact hP1
  obtain ⟨hP2, hD2⟩ := va_join hP hD isC isR hC hR hnR hdis k2 hf hP1' hD1
  obtain ⟨t2, a1, b1⟩ := kk u T'.heap (locs ++ L) hpu hP2 hD2 k1 T' rfl X'
  exact ⟨t2, st t2 a1, b1⟩
/-- what the callee may take as given -/
theorem g_pre {av : List Value} {U : State} (hE : gE G A s s.heap) (hK : va_K (gD G) vwCl (gT G) s) (hP : va_P (gD G) vwCl ws H) (hD : va_D A ws) (hS : va_S A s.heap H locs) (hA : ∀ q, s.heap.size ≤ q → A q) (isC : List Nat) (hC : isC.map (fun i => ws[i]?) = wc.map some) (hnC : va_nd isC = true) (hU : U.heap = H) (hW : s.WarmedH U.vm) : gPc G av wc H.size av.toArray U := by
  have hfm := g_fm hC
  refine ⟨rfl, by rw [hU], by rw [hU]; exact hP.sub isC hfm, va_K.moved hW.alike hK, (hD.sub isC hnC hC).weaken (fun _ _ _ _ => trivial), ?_⟩
  exact hE.go hW (fun a h1 h2 => by rw [hU]; exact hS.2.1 a h1 h2) (va_free hD hS hA isC hC)
variable {y : MethodName} {bytes cc : ByteArray} {maxL nL n index : Nat} {ret : Option FieldType} {wds Ts : List Cond} {rm : Room} {own host C : String} {b : Nat} {As : List Value} {lv : List (Nat × Value)} {T : u_T} {N ci q0 : Nat} {fs : List Value}
/-- an instance method, its object in a known cell -/
theorem gCV (hE : gE G A s s.heap) (hM : gMet l G y wds rm (.ref b :: As) wc post rv w1) (cw : CallW R s args own C index y bytes maxL ret wds rm rm.cells rm.slots n) (F : CallFix p m c cc nL s args Ts own) (hK : va_K (gD G) vwCl (gT G) s) (hP : va_P (gD G) vwCl ws H) (hD : va_D A ws) (hS : va_S A s.heap H locs) (hA : ∀ q, s.heap.size ≤ q → A q) (isC isR : List Nat) (hC : isC.map (fun i => ws[i]?) = wc.map some) (hR : isR.map (fun i => ws[i]?) = wr.map some) (hnC : va_nd isC = true) (hnR : va_nd isR = true) (hdis : ∀ i ∈ isR, i ∉ isC) (hci : vwCl[ci]? = some (C, T, N)) (hrec : wc[q0]? = some (b, .inr (ci, fs))) (hlen : As.length = n) (hl : lv_has ls nL lv) (hst : st0 = As.reverse ++ .ref b :: rest) (hroom : (rest.map fun v => v.category).sum ≤ 8) (hdg : decode cc pc = .ok (.invokevirtual index, 3)) (hf : cells + rm.cells ≤ R.cells ∧ slots + rm.slots ≤ R.slots)
    (kk : ∀ (u : S) (H1 : Heap) (locs1 : List Loc), post u → va_P (gD G) vwCl (wr ++ w1 u) H1 → va_D A (wr ++ w1 u) → va_S A s.heap H1 locs1 → W p l e R s m args below meth c H1 locs1 (cells + rm.cells) (slots + rm.slots) Q (F0 m (pc + 3) ls ((rv u).toList ++ rest))) : W p l e R s m args below meth c H locs cells slots Q (F0 m pc ls st0) :=
  gCall (va_runV F (hM H.size) cw ⟨gPc.blind, va_recv hK (hP.sub isC (g_fm hC)) hci hrec, fun U hU hW => g_pre hE hK hP hD hS hA isC hC hnC hU hW⟩ rfl hlen hl.1 hst (lv_room hroom) hdg hf) hP hD hS hA isC isR hC hR hnR hdis kk
/-- a static method -/
theorem gCS (hE : gE G A s s.heap) (hM : gMet l G y wds rm As wc post rv w1) (cw : CallB R s args own index y bytes maxL ret wds rm rm.cells rm.slots n ∧ (Cond.static y).before args s = true) (F : CallFix p m c cc nL s args Ts own) (hK : va_K (gD G) vwCl (gT G) s) (hP : va_P (gD G) vwCl ws H) (hD : va_D A ws) (hS : va_S A s.heap H locs) (hA : ∀ q, s.heap.size ≤ q → A q) (isC isR : List Nat) (hC : isC.map (fun i => ws[i]?) = wc.map some) (hR : isR.map (fun i => ws[i]?) = wr.map some) (hnC : va_nd isC = true) (hnR : va_nd isR = true) (hdis : ∀ i ∈ isR, i ∉ isC) (hlen : As.length = n) (hl : lv_has ls nL lv) (hst : st0 = As.reverse ++ rest) (hroom : (rest.map fun v => v.category).sum ≤ 8) (hdg : decode cc pc = .ok (.invokestatic index, 3)) (hf : cells + rm.cells ≤ R.cells ∧ slots + rm.slots ≤ R.slots)
    (kk : ∀ (u : S) (H1 : Heap) (locs1 : List Loc), post u → va_P (gD G) vwCl (wr ++ w1 u) H1 → va_D A (wr ++ w1 u) → va_S A s.heap H1 locs1 → W p l e R s m args below meth c H1 locs1 (cells + rm.cells) (slots + rm.slots) Q (F0 m (pc + 3) ls ((rv u).toList ++ rest))) : W p l e R s m args below meth c H locs cells slots Q (F0 m pc ls st0) :=
  gCall (va_runS F (hM H.size) cw ⟨gPc.blind, fun U hU hW => g_pre hE hK hP hD hS hA isC hC hnC hU hW⟩ rfl hlen hl.1 hst (lv_room hroom) hdg hf) hP hD hS hA isC isR hC hR hnR hdis kk
/-- a private static method of a nest mate -/
theorem gCSN (hE : gE G A s s.heap) (hM : gMet l G y wds rm As wc post rv w1) (cw : va_CN R s args own index y host bytes maxL ret wds rm rm.cells rm.slots n ∧ (Cond.static y).before args s = true ∧ True) (F : CallFix p m c cc nL s args Ts own) (hK : va_K (gD G) vwCl (gT G) s) (hP : va_P (gD G) vwCl ws H) (hD : va_D A ws) (hS : va_S A s.heap H locs) (hA : ∀ q, s.heap.size ≤ q → A q) (isC isR : List Nat) (hC : isC.map (fun i => ws[i]?) = wc.map some) (hR : isR.map (fun i => ws[i]?) = wr.map some) (hnC : va_nd isC = true) (hnR : va_nd isR = true) (hdis : ∀ i ∈ isR, i ∉ isC) (hlen : As.length = n) (hl : lv_has ls nL lv) (hst : st0 = As.reverse ++ rest) (hroom : (rest.map fun v => v.category).sum ≤ 8) (hdg : decode cc pc = .ok (.invokestatic index, 3)) (hf : cells + rm.cells ≤ R.cells ∧ slots + rm.slots ≤ R.slots)
    (kk : ∀ (u : S) (H1 : Heap) (locs1 : List Loc), post u → va_P (gD G) vwCl (wr ++ w1 u) H1 → va_D A (wr ++ w1 u) → va_S A s.heap H1 locs1 → W p l e R s m args below meth c H1 locs1 (cells + rm.cells) (slots + rm.slots) Q (F0 m (pc + 3) ls ((rv u).toList ++ rest))) : W p l e R s m args below meth c H locs cells slots Q (F0 m pc ls st0) :=
  gCall (va_runSN F (hM H.size) cw ⟨gPc.blind, fun U hU hW => g_pre hE hK hP hD hS hA isC hC hnC hU hW⟩ rfl hlen hl.1 hst (lv_room hroom) hdg hf) hP hD hS hA isC isR hC hR hnR hdis kk
/-- a constructor -/
theorem gCI (hE : gE G A s s.heap) (hM : gMet l G y wds rm (.ref b :: As) wc post rv w1) (cw : CallB R s args own index y bytes maxL none wds rm rm.cells rm.slots n ∧ y.name = "<init>" ∧ (Cond.instanceMethod y).before args s = true) (F : CallFix p m c cc nL s args Ts own) (hK : va_K (gD G) vwCl (gT G) s) (hP : va_P (gD G) vwCl ws H) (hD : va_D A ws) (hS : va_S A s.heap H locs) (hA : ∀ q, s.heap.size ≤ q → A q) (isC isR : List Nat) (hC : isC.map (fun i => ws[i]?) = wc.map some) (hR : isR.map (fun i => ws[i]?) = wr.map some) (hnC : va_nd isC = true) (hnR : va_nd isR = true) (hdis : ∀ i ∈ isR, i ∉ isC) (hlen : As.length = n) (hl : lv_has ls nL lv) (hst : st0 = As.reverse ++ .ref b :: rest) (hroom : (rest.map fun v => v.category).sum ≤ 8) (hdg : decode cc pc = .ok (.invokespecial index, 3)) (hf : cells + rm.cells ≤ R.cells ∧ slots + rm.slots ≤ R.slots)
    (kk : ∀ (u : S) (H1 : Heap) (locs1 : List Loc), post u → va_P (gD G) vwCl (wr ++ w1 u) H1 → va_D A (wr ++ w1 u) → va_S A s.heap H1 locs1 → W p l e R s m args below meth c H1 locs1 (cells + rm.cells) (slots + rm.slots) Q (F0 m (pc + 3) ls ((rv u).toList ++ rest))) : W p l e R s m args below meth c H locs cells slots Q (F0 m pc ls st0) :=
  gCall (va_runI F (hM H.size) cw ⟨gPc.blind, fun U hU hW => g_pre hE hK hP hD hS hA isC hC hnC hU hW⟩ rfl hlen hl.1 hst (lv_room hroom) hdg hf) hP hD hS hA isC isR hC hR hnR hdis kk
/-- a private constructor of a nest mate -/
theorem gCIN (hE : gE G A s s.heap) (hM : gMet l G y wds rm (.ref b :: As) wc post rv w1) (cw : va_CN R s args own index y host bytes maxL none wds rm rm.cells rm.slots n ∧ y.name = "<init>" ∧ (Cond.instanceMethod y).before args s = true) (F : CallFix p m c cc nL s args Ts own) (hK : va_K (gD G) vwCl (gT G) s) (hP : va_P (gD G) vwCl ws H) (hD : va_D A ws) (hS : va_S A s.heap H locs) (hA : ∀ q, s.heap.size ≤ q → A q) (isC isR : List Nat) (hC : isC.map (fun i => ws[i]?) = wc.map some) (hR : isR.map (fun i => ws[i]?) = wr.map some) (hnC : va_nd isC = true) (hnR : va_nd isR = true) (hdis : ∀ i ∈ isR, i ∉ isC) (hlen : As.length = n) (hl : lv_has ls nL lv) (hst : st0 = As.reverse ++ .ref b :: rest) (hroom : (rest.map fun v => v.category).sum ≤ 8) (hdg : decode cc pc = .ok (.invokespecial index, 3)) (hf : cells + rm.cells ≤ R.cells ∧ slots + rm.slots ≤ R.slots)
    (kk : ∀ (u : S) (H1 : Heap) (locs1 : List Loc), post u → va_P (gD G) vwCl (wr ++ w1 u) H1 → va_D A (wr ++ w1 u) → va_S A s.heap H1 locs1 → W p l e R s m args below meth c H1 locs1 (cells + rm.cells) (slots + rm.slots) Q (F0 m (pc + 3) ls ((rv u).toList ++ rest))) : W p l e R s m args below meth c H locs cells slots Q (F0 m pc ls st0) :=
  gCall (va_runIN F (hM H.size) cw ⟨gPc.blind, fun U hU hW => g_pre hE hK hP hD hS hA isC hC hnC hU hW⟩ rfl hlen hl.1 hst (lv_room hroom) hdg hf) hP hD hS hA isC isR hC hR hnR hdis kk
/-! ends -/
variable {mc ms : Nat}
theorem g_end {t : State} {v : Option Value} (hP : va_P (gD G) vwCl ws H) (hD : va_D A ws) (hS : va_S A s.heap H locs) (u : S) (hu : post u) (hrv : rv u = v) (is : List Nat) (hn : va_nd is = true) (hs : is.map (fun i => ws[i]?) = (w1 u).map some) (ht : t.heap = H) : gQc G A post rv w1 args s (.returned v) t := ⟨⟨u, by rw [hrv], hu, by rw [ht]; exact hP.sub is (g_fm hs), hD.sub is hn hs⟩, hS.F ht⟩
theorem gIret {v : Int32} (hQ : Q = MQ below (gQc G A post rv w1) args s mc ms A) (hx : p.tables.exec = Jvm.exec) (hb : c.code = cc) (hr : meth.sig.returnType = some .int) (hlocks : meth.locks = false) (hP : va_P (gD G) vwCl ws H) (hD : va_D A ws) (hS : va_S A s.heap H locs) (u : S) (hu : post u) (hrv : rv u = some (.int v)) (is : List Nat) (hn : va_nd is = true) (hs : is.map (fun i => ws[i]?) = (w1 u).map some) (hc : cells ≤ mc) (hsl : slots ≤ ms) (hdg : decode cc pc = .ok (.ireturn, 1)) : W p l e R s m args below meth c H locs cells slots Q (F0 m pc ls [.int v]) := by
  subst hQ
  exact W.widen hc hsl (W.iret hx hb hr (fun t ht _ => g_end hP hD hS u hu hrv is hn hs ht) hS.2.2 hdg (hlocks := hlocks))
theorem g_narZ {v : Int32} (h : v = 0 ∨ v = 1) : narrow .boolean (.int v) = .int v := by rcases h with rfl | rfl <;> rfl
theorem gZret {v : Int32} (hQ : Q = MQ below (gQc G A post rv w1) args s mc ms A) (hx : p.tables.exec = Jvm.exec) (hb : c.code = cc) (hr : meth.sig.returnType = some .boolean) (hlocks : meth.locks = false) (hv : v = 0 ∨ v = 1) (hP : va_P (gD G) vwCl ws H) (hD : va_D A ws) (hS : va_S A s.heap H locs) (u : S) (hu : post u) (hrv : rv u = some (.int v)) (is : List Nat) (hn : va_nd is = true) (hs : is.map (fun i => ws[i]?) = (w1 u).map some) (hc : cells ≤ mc) (hsl : slots ≤ ms) (hdg : decode cc pc = .ok (.ireturn, 1)) : W p l e R s m args below meth c H locs cells slots Q (F0 m pc ls [.int v]) := by
  subst hQ
  exact W.widen hc hsl (W.zret hx hb hr (g_narZ hv) (fun t ht _ => g_end hP hD hS u hu hrv is hn hs ht) hS.2.2 hdg (hlocks := hlocks))
theorem gVret (hQ : Q = MQ below (gQc G A post rv w1) args s mc ms A) (hx : p.tables.exec = Jvm.exec) (hb : c.code = cc) (hr : meth.sig.returnType = none) (hlocks : meth.locks = false) (hP : va_P (gD G) vwCl ws H) (hD : va_D A ws) (hS : va_S A s.heap H locs) (u : S) (hu : post u) (hrv : rv u = none) (is : List Nat) (hn : va_nd is = true) (hs : is.map (fun i => ws[i]?) = (w1 u).map some) (hc : cells ≤ mc) (hsl : slots ≤ ms) (hdg : decode cc pc = .ok (.return_, 1)) : W p l e R s m args below meth c H locs cells slots Q (F0 m pc ls []) := by
  subst hQ
  exact W.widen hc hsl (W.vret hx hb hr (fun t ht _ => g_end hP hD hS u hu hrv is hn hs ht) hS.2.2 hdg (hlocks := hlocks))
theorem gAret {rt : FieldType} {a : Nat} (hQ : Q = MQ below (gQc G A post rv w1) args s mc ms A) (hx : p.tables.exec = Jvm.exec) (hb : c.code = cc) (hr : meth.sig.returnType = some rt) (hrt : (∃ n, rt = .object n) ∨ ∃ t, rt = .array t) (hlocks : meth.locks = false) (hP : va_P (gD G) vwCl ws H) (hD : va_D A ws) (hS : va_S A s.heap H locs) (u : S) (hu : post u) (hrv : rv u = some (.ref a)) (is : List Nat) (hn : va_nd is = true) (hs : is.map (fun i => ws[i]?) = (w1 u).map some) (hc : cells ≤ mc) (hsl : slots ≤ ms) (hdg : decode cc pc = .ok (.areturn, 1)) : W p l e R s m args below meth c H locs cells slots Q (F0 m pc ls [.ref a]) := by
  subst hQ
  exact W.widen hc hsl (W.aret hx hb hr hrt (Or.inr ⟨a, rfl⟩) (fun t ht _ => g_end hP hD hS u hu hrv is hn hs ht) hS.2.2 hdg (hlocks := hlocks))
theorem gLret {v : Int64} (hQ : Q = MQ below (gQc G A post rv w1) args s mc ms A) (hx : p.tables.exec = Jvm.exec) (hb : c.code = cc) (hr : meth.sig.returnType = some .long) (hlocks : meth.locks = false) (hP : va_P (gD G) vwCl ws H) (hD : va_D A ws) (hS : va_S A s.heap H locs) (u : S) (hu : post u) (hrv : rv u = some (.long v)) (is : List Nat) (hn : va_nd is = true) (hs : is.map (fun i => ws[i]?) = (w1 u).map some) (hc : cells ≤ mc) (hsl : slots ≤ ms) (hdg : decode cc pc = .ok (.lreturn, 1)) : W p l e R s m args below meth c H locs cells slots Q (F0 m pc ls [.long v]) := by
  subst hQ
  exact W.widen hc hsl (W.lret hx hb hr (fun t ht _ => g_end hP hD hS u hu hrv is hn hs ht) hS.2.2 hdg (hlocks := hlocks))
/-- the number on top by another name -/
theorem gTop {x y : Int32} (h : x = y) (k : W p l e R s m args below meth c H locs cells slots Q (F0 m pc ls (.int y :: rest))) : W p l e R s m args below meth c H locs cells slots Q (F0 m pc ls (.int x :: rest)) := h ▸ k
theorem gTopL {x y : Int64} (h : x = y) (k : W p l e R s m args below meth c H locs cells slots Q (F0 m pc ls (.long y :: rest))) : W p l e R s m args below meth c H locs cells slots Q (F0 m pc ls (.long x :: rest)) := h ▸ k
end GC
end
section
/-! numbers that are Nats: instructions over nI, arrays of them -/
theorem n_and (a b : Nat) : nI a &&& nI b = nI (a &&& b) := by
  apply Int32.toBitVec_inj.1
  show BitVec.ofNat 32 a &&& BitVec.ofNat 32 b = BitVec.ofNat 32 (a &&& b)
  apply BitVec.eq_of_getLsbD_eq
  intro i hi
  simp [hi]
theorem n_or (a b : Nat) : nI a ||| nI b = nI (a ||| b) := by
  apply Int32.toBitVec_inj.1
  show BitVec.ofNat 32 a ||| BitVec.ofNat 32 b = BitVec.ofNat 32 (a ||| b)
  apply BitVec.eq_of_getLsbD_eq
  intro i hi
  simp [hi]
/-- the bits of a that b does not have -/
def clr (a b : Nat) : Nat := a ^^^ (a &&& b)
theorem clr_bit (a b i : Nat) : (clr a b).testBit i = (a.testBit i && !b.testBit i) := by
  unfold clr
  rw [Nat.testBit_xor, Nat.testBit_and]
  cases a.testBit i <;> cases b.testBit i <;> rfl
theorem n_andnot (a b : Nat) : nI a &&& (nI b ^^^ (-1)) = nI (clr a b) := by
  apply Int32.toBitVec_inj.1
  show BitVec.ofNat 32 a &&& (BitVec.ofNat 32 b ^^^ BitVec.ofInt 32 (-1)) = BitVec.ofNat 32 (clr a b)
  have hm : BitVec.ofInt 32 (-1) = BitVec.allOnes 32 := by decide
  rw [hm]
  apply BitVec.eq_of_getLsbD_eq
  intro i hi
  simp only [BitVec.getLsbD_and, BitVec.getLsbD_xor, BitVec.getLsbD_allOnes, BitVec.getLsbD_ofNat, clr_bit, hi, decide_true, Bool.true_and, Bool.xor_true]
theorem n_sm : ∀ k, k < 32 → (((nI k &&& 31) : Int32).toBitVec.smod 32).toNat = k := by decide +kernel
theorem n_shr {a k : Nat} (ha : a < 2 ^ 31) (hk : k < 32) : nI a >>> (nI k &&& 31) = nI (a / 2 ^ k) := pk_shrN ha _ k (n_sm k hk)
theorem n_shl {a k : Nat} (hk : k < 32) (h : a * 2 ^ k < 2 ^ 32) : nI a <<< (nI k &&& 31) = nI (a * 2 ^ k) := pk_shlN _ k (n_sm k hk) h
theorem n_one_shl {k : Nat} (hk : k < 31) : nI 1 <<< (nI k &&& 31) = nI (2 ^ k) := by
  rw [n_shl (by omega) (by rw [Nat.one_mul]; exact Nat.lt_of_lt_of_le (Nat.pow_lt_pow_right (by decide) hk) (by decide)), Nat.one_mul]
theorem n_inc (i : Nat) : nI i + Int32.ofInt 1 = nI (i + 1) := nI_1 i
theorem n_ne {a b : Nat} (ha : a < 2 ^ 31) (hb : b < 2 ^ 31) : ¬ nI a = nI b ↔ a ≠ b := not_congr (nI_eq ha hb)
theorem n_bit1 (a k : Nat) : a / 2 ^ k &&& 1 = (a.testBit k).toNat := by
  rw [Nat.and_one_is_mod, Nat.testBit_eq_decide_div_mod_eq]
  rcases Nat.mod_two_eq_zero_or_one (a / 2 ^ k) with h | h <;> simp [h]
theorem n_lt_bits {a n : Nat} (h : a < 2 ^ n) {m : Nat} (hm : n ≤ m) : a < 2 ^ m := Nat.lt_of_lt_of_le h (Nat.pow_le_pow_right (by decide) hm)
theorem n_min {a b : Nat} (ha : a < 2 ^ 31) (hb : b < 2 ^ 31) : (if nI b < nI a then nI b else nI a) = nI (min a b) := by
  by_cases h : b < a
  · rw [if_pos ((nI_ltI hb ha).mpr h), Nat.min_eq_right (Nat.le_of_lt h)]
  · rw [if_neg (mt (nI_ltI hb ha).mp h), Nat.min_eq_left (Nat.le_of_not_lt h)]
theorem n_max {a b : Nat} (ha : a < 2 ^ 31) (hb : b < 2 ^ 31) : (if nI a < nI b then nI b else nI a) = nI (max a b) := by
  by_cases h : a < b
  · rw [if_pos ((nI_ltI ha hb).mpr h), Nat.max_eq_right (Nat.le_of_lt h)]
  · rw [if_neg (mt (nI_ltI ha hb).mp h), Nat.max_eq_left (Nat.le_of_not_lt h)]
theorem tb_f {a k : Nat} (h : (a.testBit k).toNat = 0) : a.testBit k = false := by
  cases z : a.testBit k
  · rfl
  · rw [z] at h; exact absurd h (by decide)
theorem tb_t {a k : Nat} (h : (a.testBit k).toNat ≠ 0) : a.testBit k = true := by
  cases z : a.testBit k
  · rw [z] at h; exact absurd rfl h
  · rfl
theorem tb_lt (b : Bool) : b.toNat < 2 ^ 31 := Nat.lt_of_le_of_lt (Bool.toNat_le b) (by decide)
section NW
variable {p : Program} {l : Launch} {e : Env} {R : Room} {s : State} {m : MethodId} {args : Array Value} {below : List Frame} {meth : Method} {c : Code} {H : Heap} {locs : List Loc} {cells slots : Nat} {Q : State → Prop}
variable {cc : ByteArray} {pc : Nat} {ls : Array Slot} {rest : List Value} {a b : Nat} {off : Int} {tgt : Nat}
theorem gN_ge (hx : p.tables.exec = Jvm.exec) (hb : c.code = cc) (hdg : decode cc pc = .ok (.if_icmp .ge off, 3)) (ht : (pc : Int) + off = (tgt : Int)) (ha : a < 2 ^ 31) (hb2 : b < 2 ^ 31) (kt : b ≤ a → W p l e R s m args below meth c H locs cells slots Q (F0 m tgt ls rest)) (kf : a < b → W p l e R s m args below meth c H locs cells slots Q (F0 m (pc + 3) ls rest)) : W p l e R s m args below meth c H locs cells slots Q (F0 m pc ls (.int (nI b) :: .int (nI a) :: rest)) :=
  lv_icmp_ge hx hb hdg ht (fun h => kt ((nI_leI hb2 ha).mp h)) (fun h => kf (Nat.lt_of_not_le (mt (nI_leI hb2 ha).mpr h)))
theorem gN_gt (hx : p.tables.exec = Jvm.exec) (hb : c.code = cc) (hdg : decode cc pc = .ok (.if_icmp .gt off, 3)) (ht : (pc : Int) + off = (tgt : Int)) (ha : a < 2 ^ 31) (hb2 : b < 2 ^ 31) (kt : b < a → W p l e R s m args below meth c H locs cells slots Q (F0 m tgt ls rest)) (kf : a ≤ b → W p l e R s m args below meth c H locs cells slots Q (F0 m (pc + 3) ls rest)) : W p l e R s m args below meth c H locs cells slots Q (F0 m pc ls (.int (nI b) :: .int (nI a) :: rest)) :=
  lv_icmp_gt hx hb hdg ht (fun h => kt ((nI_ltI hb2 ha).mp h)) (fun h => kf (Nat.le_of_not_lt (mt (nI_ltI hb2 ha).mpr h)))
theorem gN_lt (hx : p.tables.exec = Jvm.exec) (hb : c.code = cc) (hdg : decode cc pc = .ok (.if_icmp .lt off, 3)) (ht : (pc : Int) + off = (tgt : Int)) (ha : a < 2 ^ 31) (hb2 : b < 2 ^ 31) (kt : a < b → W p l e R s m args below meth c H locs cells slots Q (F0 m tgt ls rest)) (kf : b ≤ a → W p l e R s m args below meth c H locs cells slots Q (F0 m (pc + 3) ls rest)) : W p l e R s m args below meth c H locs cells slots Q (F0 m pc ls (.int (nI b) :: .int (nI a) :: rest)) :=
  lv_icmp_lt hx hb hdg ht (fun h => kt ((nI_ltI ha hb2).mp h)) (fun h => kf (Nat.le_of_not_lt (mt (nI_ltI ha hb2).mpr h)))
theorem gN_le (hx : p.tables.exec = Jvm.exec) (hb : c.code = cc) (hdg : decode cc pc = .ok (.if_icmp .le off, 3)) (ht : (pc : Int) + off = (tgt : Int)) (ha : a < 2 ^ 31) (hb2 : b < 2 ^ 31) (kt : a ≤ b → W p l e R s m args below meth c H locs cells slots Q (F0 m tgt ls rest)) (kf : b < a → W p l e R s m args below meth c H locs cells slots Q (F0 m (pc + 3) ls rest)) : W p l e R s m args below meth c H locs cells slots Q (F0 m pc ls (.int (nI b) :: .int (nI a) :: rest)) :=
  lv_icmp_le hx hb hdg ht (fun h => kt ((nI_leI ha hb2).mp h)) (fun h => kf (Nat.lt_of_not_le (mt (nI_leI ha hb2).mpr h)))
theorem gN_eq (hx : p.tables.exec = Jvm.exec) (hb : c.code = cc) (hdg : decode cc pc = .ok (.if_icmp .eq off, 3)) (ht : (pc : Int) + off = (tgt : Int)) (ha : a < 2 ^ 31) (hb2 : b < 2 ^ 31) (kt : a = b → W p l e R s m args below meth c H locs cells slots Q (F0 m tgt ls rest)) (kf : a ≠ b → W p l e R s m args below meth c H locs cells slots Q (F0 m (pc + 3) ls rest)) : W p l e R s m args below meth c H locs cells slots Q (F0 m pc ls (.int (nI b) :: .int (nI a) :: rest)) :=
  lv_icmp_eq hx hb hdg ht (fun h => kt ((nI_eq ha hb2).mp h)) (fun h => kf ((n_ne ha hb2).mp h))
theorem gN_ne (hx : p.tables.exec = Jvm.exec) (hb : c.code = cc) (hdg : decode cc pc = .ok (.if_icmp .ne off, 3)) (ht : (pc : Int) + off = (tgt : Int)) (ha : a < 2 ^ 31) (hb2 : b < 2 ^ 31) (kt : a ≠ b → W p l e R s m args below meth c H locs cells slots Q (F0 m tgt ls rest)) (kf : a = b → W p l e R s m args below meth c H locs cells slots Q (F0 m (pc + 3) ls rest)) : W p l e R s m args below meth c H locs cells slots Q (F0 m pc ls (.int (nI b) :: .int (nI a) :: rest)) :=
  lv_icmp_ne hx hb hdg ht (fun h => kt ((n_ne ha hb2).mp h)) (fun h => kf ((nI_eq ha hb2).mp h))
theorem gN_eq0 (hx : p.tables.exec = Jvm.exec) (hb : c.code = cc) (hdg : decode cc pc = .ok (.ifCond .eq off, 3)) (ht : (pc : Int) + off = (tgt : Int)) (ha : a < 2 ^ 31) (kt : a = 0 → W p l e R s m args below meth c H locs cells slots Q (F0 m tgt ls rest)) (kf : a ≠ 0 → W p l e R s m args below meth c H locs cells slots Q (F0 m (pc + 3) ls rest)) : W p l e R s m args below meth c H locs cells slots Q (F0 m pc ls (.int (nI a) :: rest)) :=
  lv_if_eq hx hb hdg ht (fun h => kt ((nI_eq ha (by decide)).mp h)) (fun h => kf ((n_ne ha (by decide)).mp h))
theorem gN_ne0 (hx : p.tables.exec = Jvm.exec) (hb : c.code = cc) (hdg : decode cc pc = .ok (.ifCond .ne off, 3)) (ht : (pc : Int) + off = (tgt : Int)) (ha : a < 2 ^ 31) (kt : a ≠ 0 → W p l e R s m args below meth c H locs cells slots Q (F0 m tgt ls rest)) (kf : a = 0 → W p l e R s m args below meth c H locs cells slots Q (F0 m (pc + 3) ls rest)) : W p l e R s m args below meth c H locs cells slots Q (F0 m pc ls (.int (nI a) :: rest)) :=
  lv_if_ne hx hb hdg ht (fun h => kt ((n_ne ha (by decide)).mp h)) (fun h => kf ((nI_eq ha (by decide)).mp h))
theorem gN_lt0 (hx : p.tables.exec = Jvm.exec) (hb : c.code = cc) (hdg : decode cc pc = .ok (.ifCond .lt off, 3)) (ha : a < 2 ^ 31) (k : W p l e R s m args below meth c H locs cells slots Q (F0 m (pc + 3) ls rest)) (tgt : Nat) (ht : (pc : Int) + off = (tgt : Int)) : W p l e R s m args below meth c H locs cells slots Q (F0 m pc ls (.int (nI a) :: rest)) :=
  lv_if_lt (tgt := tgt) hx hb hdg ht (fun h => absurd h (nI_nlt (Nat.zero_le a) ha)) (fun _ => k)
theorem gN_ge0 (hx : p.tables.exec = Jvm.exec) (hb : c.code = cc) (hdg : decode cc pc = .ok (.ifCond .ge off, 3)) (ht : (pc : Int) + off = (tgt : Int)) (ha : a < 2 ^ 31) (k : W p l e R s m args below meth c H locs cells slots Q (F0 m tgt ls rest)) : W p l e R s m args below meth c H locs cells slots Q (F0 m pc ls (.int (nI a) :: rest)) :=
  lv_if_ge hx hb hdg ht (fun _ => k) (fun h => absurd (nI_pos' ha) h)
theorem gN_le0 (hx : p.tables.exec = Jvm.exec) (hb : c.code = cc) (hdg : decode cc pc = .ok (.ifCond .le off, 3)) (ht : (pc : Int) + off = (tgt : Int)) (ha : a < 2 ^ 31) (kt : a = 0 → W p l e R s m args below meth c H locs cells slots Q (F0 m tgt ls rest)) (kf : 0 < a → W p l e R s m args below meth c H locs cells slots Q (F0 m (pc + 3) ls rest)) : W p l e R s m args below meth c H locs cells slots Q (F0 m pc ls (.int (nI a) :: rest)) :=
  lv_if_le hx hb hdg ht (fun h => kt (Nat.le_zero.mp ((nI_leI ha (by decide)).mp h))) (fun h => kf (Nat.pos_of_ne_zero (fun z => h (by rw [z]; decide))))
/-- an array of Nats -/
def nA (f : Nat → Nat) : Nat → Int32 := fun j => nI (f j)
theorem nA_up (f : Nat → Nat) {i x : Nat} (hi : i < 2 ^ 31) : upd (nA f) (nI i).toNatClampNeg (nI x) = nA (va_up f i x) := by
  funext j
  rw [nI_clamp hi]
  by_cases h : j = i
  · simp [upd, nA, va_up, h]
  · simp [upd, nA, va_up, h]
theorem nA_0 : (fun _ => 0 : Nat → Int32) = nA (fun _ => 0) := rfl
/-- an array of ints, as Ints -/
def iZ (z : Int) : Int32 := Int32.ofInt z
def zA (f : Nat → Int) : Nat → Int32 := fun j => iZ (f j)
theorem zA_up (f : Nat → Int) {i : Nat} {x : Int} (hi : i < 2 ^ 31) : upd (zA f) (nI i).toNatClampNeg (iZ x) = zA (va_up f i x) := by
  funext j
  rw [nI_clamp hi]
  by_cases h : j = i
  · simp [upd, zA, va_up, h]
  · simp [upd, zA, va_up, h]
theorem zA_0 : (fun _ => 0 : Nat → Int32) = zA (fun _ => 0) := rfl
variable {D : va_G} {cl : List vw_C} {tys : List (ClassId × FieldType)} {ws : va_W} {A : Nat → Prop} {H0 : Heap} {r : Nat}
theorem gN_iald (hx : p.tables.exec = Jvm.exec) (hb : c.code = cc) (hK : va_K D cl tys s) (hP : va_P D cl ws H) (q0 t0 : Nat) {cA : ClassId} {n : Nat} {f : Nat → Nat} (ha : ws[q0]? = some (r, .inl (cA, n, .inl (nA f)))) (ht : tys[t0]? = some (cA, .int)) (hi : a < n) (hn : n < 2 ^ 31) (hdg : decode cc pc = .ok (.iaload, 1))
    (kk : W p l e R s m args below meth c H locs cells slots Q (F0 m (pc + 1) ls (.int (nI (f a)) :: rest))) : W p l e R s m args below meth c H locs cells slots Q (F0 m pc ls (.int (nI a) :: .ref r :: rest)) := by
  refine va_iald hx hb hK hP q0 t0 ha ht (vp_in_nI hi hn) hdg ?_
  rw [show (nA f) (nI a).toNatClampNeg = nI (f a) by rw [nI_clamp (by omega)]; rfl]
  exact kk
theorem gN_iast {x : Nat} (hx : p.tables.exec = Jvm.exec) (hb : c.code = cc) (hK : va_K D cl tys s) (hP : va_P D cl ws H) (hD : va_D A ws) (hS : va_S A H0 H locs) (q0 t0 : Nat) {cA : ClassId} {n : Nat} {f : Nat → Nat} (ha : ws[q0]? = some (r, .inl (cA, n, .inl (nA f)))) (ht : tys[t0]? = some (cA, .int)) (hi : a < n) (hn : n < 2 ^ 31) (hdg : decode cc pc = .ok (.iastore, 1))
    (kk : ∀ (H1 : Heap) (locs1 : List Loc), va_P D cl (ws.set q0 (r, .inl (cA, n, .inl (nA (va_up f a x))))) H1 → va_D A (ws.set q0 (r, .inl (cA, n, .inl (nA (va_up f a x))))) → va_S A H0 H1 locs1 → W p l e R s m args below meth c H1 locs1 cells slots Q (F0 m (pc + 1) ls rest)) : W p l e R s m args below meth c H locs cells slots Q (F0 m pc ls (.int (nI x) :: .int (nI a) :: .ref r :: rest)) := by
  refine va_iast hx hb hK hP hD hS q0 t0 ha ht (vp_in_nI hi hn) hdg ?_
  rw [nA_up f (by omega)]
  exact kk
theorem gZ_iald (hx : p.tables.exec = Jvm.exec) (hb : c.code = cc) (hK : va_K D cl tys s) (hP : va_P D cl ws H) (q0 t0 : Nat) {cA : ClassId} {n : Nat} {f : Nat → Int} (ha : ws[q0]? = some (r, .inl (cA, n, .inl (zA f)))) (ht : tys[t0]? = some (cA, .int)) (hi : a < n) (hn : n < 2 ^ 31) (hdg : decode cc pc = .ok (.iaload, 1))
    (kk : W p l e R s m args below meth c H locs cells slots Q (F0 m (pc + 1) ls (.int (iZ (f a)) :: rest))) : W p l e R s m args below meth c H locs cells slots Q (F0 m pc ls (.int (nI a) :: .ref r :: rest)) := by
  refine va_iald hx hb hK hP q0 t0 ha ht (vp_in_nI hi hn) hdg ?_
  rw [show (zA f) (nI a).toNatClampNeg = iZ (f a) by rw [nI_clamp (by omega)]; rfl]
  exact kk
theorem gZ_iast {x : Int} (hx : p.tables.exec = Jvm.exec) (hb : c.code = cc) (hK : va_K D cl tys s) (hP : va_P D cl ws H) (hD : va_D A ws) (hS : va_S A H0 H locs) (q0 t0 : Nat) {cA : ClassId} {n : Nat} {f : Nat → Int} (ha : ws[q0]? = some (r, .inl (cA, n, .inl (zA f)))) (ht : tys[t0]? = some (cA, .int)) (hi : a < n) (hn : n < 2 ^ 31) (hdg : decode cc pc = .ok (.iastore, 1))
    (kk : ∀ (H1 : Heap) (locs1 : List Loc), va_P D cl (ws.set q0 (r, .inl (cA, n, .inl (zA (va_up f a x))))) H1 → va_D A (ws.set q0 (r, .inl (cA, n, .inl (zA (va_up f a x))))) → va_S A H0 H1 locs1 → W p l e R s m args below meth c H1 locs1 cells slots Q (F0 m (pc + 1) ls rest)) : W p l e R s m args below meth c H locs cells slots Q (F0 m pc ls (.int (iZ x) :: .int (nI a) :: .ref r :: rest)) := by
  refine va_iast hx hb hK hP hD hS q0 t0 ha ht (vp_in_nI hi hn) hdg ?_
  rw [zA_up f (by omega)]
  exact kk
theorem gN_newa {G : gG} {n : Nat} (hx : p.tables.exec = Jvm.exec) (hb : c.code = cc) (harr : (Cond.arrayClass .int).before args s = true) (hK : va_K (gD G) vwCl (gT G) s) (hP : va_P (gD G) vwCl ws H) (hD : va_D A ws) (hS : va_S A H0 H locs) (hA : ∀ q, H0.size ≤ q → A q) (hn : n < 2 ^ 31) (hbytes : n * 4 ≤ 536870912) (hcells : cells + 1 ≤ R.cells) (hslots : slots + n ≤ R.slots) (hdg : decode cc pc = .ok (.newarray .int, 2))
    (kk : ∀ (q : Nat) (H1 : Heap), va_P (gD G) vwCl (ws ++ [(q, .inl (G.2.2.1 0, n, .inl (nA (fun _ => 0))))]) H1 → va_D A (ws ++ [(q, .inl (G.2.2.1 0, n, .inl (nA (fun _ => 0))))]) → va_S A H0 H1 locs → W p l e R s m args below meth c H1 locs (cells + 1) (slots + n) Q (F0 m (pc + 2) ls (.ref q :: rest))) : W p l e R s m args below meth c H locs cells slots Q (F0 m pc ls (.int (nI n) :: rest)) := by
  refine va_newa (atype := .int) (ty := .int) (N' := n) (a0 := (n, .inl (nA (fun _ => 0)))) hx hb harr rfl hK hP hD hS hA (fun _ => rfl) (nI_pos hn) (nI_clamp hn) hbytes hcells hslots hdg (fun q cA H1 hK1 hP1 hD1 hS1 => ?_)
  have h0 := (hK.2 0 _ rfl).2
  have h1 := (hK1.2 5 _ rfl).2
  have h0' : s.vm.findClass ("[" ++ FieldType.int.toString) = some (G.2.2.1 0) := h0
  have h1' : s.vm.findClass ("[" ++ FieldType.int.toString) = some cA := h1
  cases Option.some.inj (h0'.symm.trans h1')
  exact kk q H1 hP1 hD1 hS1
end NW
end
section
theorem zz_last : True := trivial
end
