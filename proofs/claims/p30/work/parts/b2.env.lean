/-! the law's entry: what the callees ask of the environment -/
theorem kOne {D : va_G} {cl : List vw_C} {tys : List (ClassId × FieldType)} {U : State} (h1 : ∀ c, c < cl.length → ∀ q, cl[c]? = some q → u_Kn U q.1 q.2.1 q.2.2 (D.1 c) (D.2 c)) (h2 : ∀ k, k < tys.length → ∀ q, tys[k]? = some q → ArrOfT U q.1 q.2 ∧ va_RA U q.1 q.2) : va_K D cl tys U :=
  ⟨fun c q hq => h1 c (List.getElem?_eq_some_iff.mp hq).1 q hq, fun k q hq => h2 k (List.getElem?_eq_some_iff.mp hq).1 q hq⟩
theorem eqI_of {args : Array Value} {s : State} {t : Term} {z : Int32} (h : (Cond.eq t (.int z)).before args s = true) : t.eval args s none [] s = some (.int z) := va_eqI (u := .int z) (by simpa [Cond.before, Cond.holds] using h) rfl
set_option maxHeartbeats 4000000 in
set_option maxRecDepth 100000 in
theorem law_env {p : Program} {s : State} {m : MethodId} {meth : Method} {c : Code} {b L : Nat} {xs : Nat → Int32} (hAt : lw_At p s m meth c b L xs) (hL : L < 2 ^ 31) : ∃ G : gG, G.2.2.2 259 = b ∧ va_K (gD G) vwCl (gT G) s ∧ gE G (fun q => s.heap.size ≤ q) s s.heap := by
  obtain ⟨hx, hb, hr, hml, hown, hts, hX, hbl, hlocks, hgv⟩ := hAt
  have hfl := flat_of_before _ hgv
  have hA : ∀ a : Nat, a < s.heap.size → ¬ (fun q => s.heap.size ≤ q) a := fun a h1 h2 => Nat.lt_irrefl _ (Nat.lt_of_lt_of_le h1 h2)
  -- the classes
  obtain ⟨c0, i0, k0⟩ := u_known (C := RJ6) (T := TJ6) (N := 1) (n := 1) hts inJ6 (hts _ (by decide +kernel))
  obtain ⟨c1, i1, k1⟩ := u_known (C := RJx35411) (T := TJx35411) (N := 4) (n := 4) hts inJx35411 (hts _ (by decide +kernel))
  obtain ⟨c2, i2, k2⟩ := u_known (C := RJx4a65c) (T := TJx4a65c) (N := 3) (n := 3) hts inJx4a65c (hts _ (by decide +kernel))
  obtain ⟨c3, i3, k3⟩ := u_known (C := RX0) (T := TX0) (N := 4) (n := 4) hts inX0 (hts _ (by decide +kernel))
  obtain ⟨c4, i4, k4⟩ := u_known (C := RX1) (T := TX1) (N := 1) (n := 1) hts inX1 (hts _ (by decide +kernel))
  obtain ⟨c5, i5, k5⟩ := u_known (C := RX2) (T := TX2) (N := 8) (n := 8) hts inX2 (hts _ (by decide +kernel))
  obtain ⟨c6, i6, k6⟩ := u_known (C := RX3) (T := TX3) (N := 3) (n := 3) hts inX3 (hts _ (by decide +kernel))
  obtain ⟨c7, i7, k7⟩ := u_known (C := RX4) (T := TX4) (N := 9) (n := 9) hts inX4 (hts _ (by decide +kernel))
  obtain ⟨c8, i8, k8⟩ := u_known (C := RX5) (T := TX5) (N := 3) (n := 3) hts inX5 (hts _ (by decide +kernel))
  obtain ⟨c9, i9, k9⟩ := u_known (C := RX6) (T := TX6) (N := 5) (n := 5) hts inX6 (hts _ (by decide +kernel))
  -- the classes of arrays
  have oI : va_AOA .int s := g_over rfl (hts (.arrayOver (.array .int)) (by decide +kernel))
  have oL : va_AOA .long s := g_over rfl (hts (.arrayOver (.array .long)) (by decide +kernel))
  have oO : va_AO "java/lang/Object" s := g_over rfl (hts (.arrayOver (.object "java/lang/Object")) (by decide +kernel))
  obtain ⟨cI, kI, pI, hI1, hI2, hI3⟩ := Cond.arrayClass_spec (hts (.arrayClass .int) (by decide +kernel))
  obtain ⟨cJ, kJ, pJ, hJ1, hJ2, hJ3⟩ := Cond.arrayClass_spec (hts (.arrayClass .long) (by decide +kernel))
  obtain ⟨pII, cII, kII, -, -, hII2, hII3, hII1⟩ := arrayOverA_spec oI
  obtain ⟨pJJ, cJJ, kJJ, -, -, hJJ2, hJJ3, hJJ1⟩ := arrayOverA_spec oL
  obtain ⟨pO, cO, kO, hO0, -, hO2, hO3, hO1⟩ := Cond.arrayOver_spec oO
  -- the JDK's statics
  have eD := eqI_of (hfl (Cond.eq (.length (.static RJx4a65c "DEFAULTCAPACITY_EMPTY_ELEMENTDATA" "[Ljava/lang/Object;")) (.int 0)) (by decide +kernel))
  obtain ⟨e0, vD, tD⟩ := va_Tof (N := 0) (f := fun _ => .null) (A := fun q => s.heap.size ≤ q) (by decide) (hfl (Cond.arrayOf (.static RJx4a65c "DEFAULTCAPACITY_EMPTY_ELEMENTDATA" "[Ljava/lang/Object;") (.object "java/lang/Object")) (by decide +kernel)) eD (fun j hj => absurd hj (Nat.not_lt_zero j)) hA
  have zD := va_Zof (A := fun q => s.heap.size ≤ q) (hts (.laysStatic RJx4a65c "DEFAULTCAPACITY_EMPTY_ELEMENTDATA" "[Ljava/lang/Object;") (by decide +kernel)) (hts (.initialized RJx4a65c) (by decide +kernel)) vD hA
  have eH := va_eqi (hfl (Cond.eq (.static RJxabbfe "high" "I") (.int 127)) (by decide +kernel))
  have zH := va_Zof (A := fun q => s.heap.size ≤ q) (hts (.laysStatic RJxabbfe "high" "I") (by decide +kernel)) (hts (.initialized RJxabbfe) (by decide +kernel)) eH hA
  have eC := eqI_of (hfl (Cond.eq (.length (.static RJxabbfe "cache" "[Ljava/lang/Integer;")) (.int 256)) (by decide +kernel))
  obtain ⟨ad, hB, hE⟩ := vb_Cof (st := .static RJxabbfe "cache" "[Ljava/lang/Integer;") (A := fun q => s.heap.size ≤ q) rfl eC (hfl _ (by decide +kernel)) hA
  obtain ⟨ca, vC, tC⟩ := va_Tof (N := 256) (f := fun k => .ref (ad k)) (A := fun q => s.heap.size ≤ q) (by decide) (hfl (Cond.arrayOf (.static RJxabbfe "cache" "[Ljava/lang/Integer;") (.object RJ6)) (by decide +kernel)) eC hE hA
  have zC := va_Zof (A := fun q => s.heap.size ≤ q) (hts (.laysStatic RJxabbfe "cache" "[Ljava/lang/Integer;") (by decide +kernel)) (hts (.initialized RJxabbfe) (by decide +kernel)) vC hA
  obtain ⟨mi, hMi⟩ := va_Mi.of (hfl (Cond.isRef (.mirror "[Ljava/lang/Object;")) (by decide +kernel))
  have hDc := va_Dc.of (hts (.declares ⟨"java/lang/Object", "getClass", "()Ljava/lang/Class;"⟩) (by decide +kernel))
  -- the addresses
  obtain ⟨am, ham⟩ : ∃ am : Nat → Nat, am = fun i => if i = 0 then e0 else if i = 1 then ca else if i = 2 then mi else if i = 259 then b else ad (i - 3) := ⟨_, rfl⟩
  have had : ∀ k, k < 256 → am (k + 3) = ad k := fun k hk => by rw [ham]; show (if k + 3 = 0 then e0 else if k + 3 = 1 then ca else if k + 3 = 2 then mi else if k + 3 = 259 then b else ad (k + 3 - 3)) = ad k; rw [if_neg (by omega), if_neg (by omega), if_neg (by omega), if_neg (by omega), Nat.add_sub_cancel]
  have a0 : am 0 = e0 := by rw [ham]; rfl
  have a1 : am 1 = ca := by rw [ham]; rfl
  have a2 : am 2 = mi := by rw [ham]; rfl
  have a3 : am 259 = b := by rw [ham]; rfl
  refine ⟨(fun i => [c0, c1, c2, c3, c4, c5, c6, c7, c8, c9].getD i 0, fun i => [i0, i1, i2, i3, i4, i5, i6, i7, i8, i9].getD i i0, fun i => [cI, cII, cJ, cJJ, cO].getD i 0, am), a3, kOne (fun c hc q hq => ?_) (fun k hk q hq => ?_), ⟨⟨⟨fun q hq => ?_, ?_⟩, ?_⟩, ⟨⟨oI, oL, oO⟩, by show va_Mi _ (am 2) s; rw [a2]; exact hMi, hDc⟩, ⟨fun q hq => ?_, fun q hq => ?_⟩, ⟨by show va_Z _ _ _ (.ref (am 0)) _ _ _; rw [a0]; exact zD, zH, by show va_Z _ _ _ (.ref (am 1)) _ _ _; rw [a1]; exact zC⟩, by show va_T _ (am 0) _ _ _ _ _; rw [a0]; exact tD, ?_, ?_⟩⟩
  · have hc10 : c < 10 := hc
    rcases (show c = 0 ∨ c = 1 ∨ c = 2 ∨ c = 3 ∨ c = 4 ∨ c = 5 ∨ c = 6 ∨ c = 7 ∨ c = 8 ∨ c = 9 by omega) with rfl | rfl | rfl | rfl | rfl | rfl | rfl | rfl | rfl | rfl <;> cases hq <;> assumption
  · have hk5 : k < 5 := hk
    rcases (show k = 0 ∨ k = 1 ∨ k = 2 ∨ k = 3 ∨ k = 4 by omega) with rfl | rfl | rfl | rfl | rfl <;> cases hq
    · exact ⟨fun N z => ⟨(fun q hq => by cases hq), kI, hI2, pI, hI3⟩, hI1⟩
    · exact ⟨fun N z => ⟨(fun q hq => by cases hq), kII, hII2, pII, hII3⟩, hII1⟩
    · exact ⟨fun N z => ⟨(fun q hq => by cases hq), kJ, hJ2, pJ, hJ3⟩, hJ1⟩
    · exact ⟨fun N z => ⟨(fun q hq => by cases hq), kJJ, hJJ2, pJJ, hJJ3⟩, hJJ1⟩
    · exact ⟨fun N z => ⟨(fun q hq => by cases hq), kO, hO2, pO, hO3⟩, kO, pO, hO2, hO3, hO0, hO1⟩
  · exact va_Nw.of rfl (hts (.methodLinkNest q.1 q.2.1 q.2.2.1 q.2.2.2) ((by decide +kernel : ∀ q ∈ gNm, Cond.methodLinkNest q.1 q.2.1 q.2.2.1 q.2.2.2 ∈ lw_tbl) q hq))
  · obtain ⟨cell, h1, h2, h3, h4, h5⟩ := hX
    refine ⟨L, xs, hL, cell, by show s.heap[am 259]? = some cell; rw [a3]; exact h1, h2, h3, Nat.le_of_eq h4.symm, by rw [h4], h5, ?_⟩
    show ¬ s.heap.size ≤ am 259
    rw [a3]
    omega
  · exact va_Nw.of rfl (hts _ (by decide +kernel))
  · have hw := (by decide +kernel : ∀ q ∈ gFw, Cond.declares q.2.1 ∈ lw_tbl ∧ Cond.interfaceMethod q.2.1.cls q.2.1.cls q.2.1.name q.2.1.desc ∈ lw_tbl ∧ Cond.publicMethod q.2.2 ∈ lw_tbl ∧ Cond.unhidden q.1 q.2.1.name q.2.1.desc ∈ lw_tbl ∧ Cond.castable q.1 q.2.1.cls ∈ lw_tbl) q hq
    exact va_Fw.of (hts _ hw.1) (hts _ hw.2.1) (hts _ hw.2.2.1) (hts _ hw.2.2.2.1) (hts _ hw.2.2.2.2)
  · exact va_Nw.of rfl (hts _ ((by decide +kernel : ∀ q ∈ gCs, Cond.castable q.1 q.2 ∈ lw_tbl) q hq))
  · obtain ⟨cell, h1, h2, h3, h4, h5, h6, h7⟩ := tC
    show va_T _ (am 1) _ _ _ _ _
    rw [a1]
    exact ⟨cell, h1, h2, h3, h4, h5, fun j hj => by rw [h6 j hj]; show some (Value.ref (ad j)) = some (Value.ref (am (j + 3))); rw [had j hj], h7⟩
  · refine ⟨fun k hk => ?_, fun i hi => ?_⟩
    · show va_O _ (am (k + 3)) _ _ _
      rw [had k hk]
      exact hB.1 k hk
    · show va_OF _ _ _ _ (am (i + 3)) _ _ _
      rw [had i hi]
      exact hB.2 i hi
