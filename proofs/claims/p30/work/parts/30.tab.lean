/-! bitCount; Tables -/
/-- how many bits -/
def popc (n : Nat) : Nat := (n.testBit 0).toNat + (n.testBit 1).toNat + (n.testBit 2).toNat + (n.testBit 3).toNat + (n.testBit 4).toNat + (n.testBit 5).toNat + (n.testBit 6).toNat + (n.testBit 7).toNat + (n.testBit 8).toNat + (n.testBit 9).toNat
def bcE (x : Int32) : Int32 :=
  let a := x - (((x).toUInt32 >>> ((nI 1).toUInt32 &&& Int32.toUInt32 31)).toInt32 &&& 1431655765)
  let b := (a &&& 858993459) + (((a).toUInt32 >>> ((nI 2).toUInt32 &&& Int32.toUInt32 31)).toInt32 &&& 858993459)
  let c := (b + ((b).toUInt32 >>> ((nI 4).toUInt32 &&& Int32.toUInt32 31)).toInt32) &&& 252645135
  let d := c + ((c).toUInt32 >>> ((nI 8).toUInt32 &&& Int32.toUInt32 31)).toInt32
  let e := d + ((d).toUInt32 >>> ((nI 16).toUInt32 &&& Int32.toUInt32 31)).toInt32
  e &&& nI 63
theorem bc_all : (List.range 1024).all (fun n => bcE (nI n) == nI (popc n)) = true := by decide +kernel
theorem bc_ok {n : Nat} (h : n < 1024) : bcE (nI n) = nI (popc n) := eq_of_beq (List.all_eq_true.mp bc_all n (List.mem_range.mpr h))
theorem popc_le (n : Nat) : popc n ≤ 10 := by
  unfold popc
  have h := fun b => Bool.toNat_le b
  have := h (n.testBit 0); have := h (n.testBit 1); have := h (n.testBit 2); have := h (n.testBit 3); have := h (n.testBit 4); have := h (n.testBit 5); have := h (n.testBit 6); have := h (n.testBit 7); have := h (n.testBit 8); have := h (n.testBit 9)
  omega
/-- two in the line are within the bar -/
def anyP (g : Nat → Nat) (line n : Nat) : Prop := ∃ i j, i < j ∧ j < n ∧ pw g line i j = true
theorem pairR_no {g : Nat → Nat} {line n : Nat} {r : Int32} (hn : n ≤ 7) (h : pairR g line n r) (hr : r = -1) : ¬ anyP g line n := by
  rcases h with ⟨-, h⟩ | ⟨i, j, h1, h2, h3, rfl⟩
  · rintro ⟨i, j, h1, h2, h3⟩
    rw [h i j h1 h2] at h3
    cases h3
  · intro _
    have h5 : 0 ≤ nI (i * 10 + j) := nI_pos' (by omega)
    rw [hr] at h5
    exact absurd h5 (by decide)
theorem pairR_yes {g : Nat → Nat} {line n : Nat} {r : Int32} (h : pairR g line n r) (hr : ¬ r = -1) : anyP g line n := by
  rcases h with ⟨h, -⟩ | ⟨i, j, h1, h2, h3, -⟩
  · exact absurd h hr
  · exact ⟨i, j, h1, h2, h3⟩

def rm_c_bitCount : Room := { frames := 0, cells := 0, slots := 0, locals := 0 }
set_option maxHeartbeats 4000000 in
set_option maxRecDepth 100000 in
/-- Integer.bitCount -/
theorem c_bitCount (l : Launch) (G : gG) (n : Nat) (hn : n < 1024) : gMet (S := Unit) l G yJ6_bitCount_0f7a4 wsJ6_bitCount_0f7a4 rm_c_bitCount [.int (nI n)] [] (fun _ => True) (fun _ => some (.int (nI (popc n)))) (fun _ => []) := by
  refine gOf (maxL := 1) (ret := (some .int)) (cc := cJ6_bitCount_0f7a4) (by decide) rfl (Nat.le_of_ble_eq_true rfl) ?_
  intro P9 e9 s m9 args below meth c9 A ls H locs Q hQ hx hb hml hr hown hts hlocks hin hK hP hD hS hA hE hl
  have hown : s.vm.findClass RJ6 = some m9.cls := hown
  have hl : lv_has ls 1 [(0, .int (nI n))] := hl
  have hraw : True := trivial
  refine lv_iload_n hx hb dJ6_bitCount_0f7a4_0 rfl (lv_at hl 0 rfl) ?_
  refine lv_iload_n hx hb dJ6_bitCount_0f7a4_1 rfl (lv_at hl 0 rfl) ?_
  refine lv_iconst (v := nI 1) hx hb dJ6_bitCount_0f7a4_2 (by decide) ?_
  refine lv_iushr (v := ((nI n).toUInt32 >>> ((nI 1).toUInt32 &&& Int32.toUInt32 31)).toInt32) hx hb dJ6_bitCount_0f7a4_3 rfl ?_
  refine lv_ldcw (v := 1431655765) hx hb hown (hts (.constant RJ6 265 1431655765) (by decide +kernel)) dJ6_bitCount_0f7a4_4 ?_
  refine lv_iand hx hb dJ6_bitCount_0f7a4_7 ?_
  refine lv_isub hx hb dJ6_bitCount_0f7a4_8 ?_
  refine lv_topi (fun za eza => ?_)
  refine lv_istore_n (lv' := [(0, .int za)]) hx hb dJ6_bitCount_0f7a4_9 rfl hl (by decide) rfl (fun ls hl => ?_)
  refine lv_iload_n hx hb dJ6_bitCount_0f7a4_10 rfl (lv_at hl 0 rfl) ?_
  refine lv_ldcw (v := 858993459) hx hb hown (hts (.constant RJ6 266 858993459) (by decide +kernel)) dJ6_bitCount_0f7a4_11 ?_
  refine lv_iand hx hb dJ6_bitCount_0f7a4_14 ?_
  refine lv_iload_n hx hb dJ6_bitCount_0f7a4_15 rfl (lv_at hl 0 rfl) ?_
  refine lv_iconst (v := nI 2) hx hb dJ6_bitCount_0f7a4_16 (by decide) ?_
  refine lv_iushr (v := (za.toUInt32 >>> ((nI 2).toUInt32 &&& Int32.toUInt32 31)).toInt32) hx hb dJ6_bitCount_0f7a4_17 rfl ?_
  refine lv_ldcw (v := 858993459) hx hb hown (hts (.constant RJ6 266 858993459) (by decide +kernel)) dJ6_bitCount_0f7a4_18 ?_
  refine lv_iand hx hb dJ6_bitCount_0f7a4_21 ?_
  refine lv_iadd hx hb dJ6_bitCount_0f7a4_22 ?_
  refine lv_topi (fun zb ezb => ?_)
  refine lv_istore_n (lv' := [(0, .int zb)]) hx hb dJ6_bitCount_0f7a4_23 rfl hl (by decide) rfl (fun ls hl => ?_)
  refine lv_iload_n hx hb dJ6_bitCount_0f7a4_24 rfl (lv_at hl 0 rfl) ?_
  refine lv_iload_n hx hb dJ6_bitCount_0f7a4_25 rfl (lv_at hl 0 rfl) ?_
  refine lv_iconst (v := nI 4) hx hb dJ6_bitCount_0f7a4_26 (by decide) ?_
  refine lv_iushr (v := (zb.toUInt32 >>> ((nI 4).toUInt32 &&& Int32.toUInt32 31)).toInt32) hx hb dJ6_bitCount_0f7a4_27 rfl ?_
  refine lv_iadd hx hb dJ6_bitCount_0f7a4_28 ?_
  refine lv_ldcw (v := 252645135) hx hb hown (hts (.constant RJ6 267 252645135) (by decide +kernel)) dJ6_bitCount_0f7a4_29 ?_
  refine lv_iand hx hb dJ6_bitCount_0f7a4_32 ?_
  refine lv_topi (fun zc ezc => ?_)
  refine lv_istore_n (lv' := [(0, .int zc)]) hx hb dJ6_bitCount_0f7a4_33 rfl hl (by decide) rfl (fun ls hl => ?_)
  refine lv_iload_n hx hb dJ6_bitCount_0f7a4_34 rfl (lv_at hl 0 rfl) ?_
  refine lv_iload_n hx hb dJ6_bitCount_0f7a4_35 rfl (lv_at hl 0 rfl) ?_
  refine lv_bipush (v := nI 8) hx hb dJ6_bitCount_0f7a4_36 (by decide) ?_
  refine lv_iushr (v := (zc.toUInt32 >>> ((nI 8).toUInt32 &&& Int32.toUInt32 31)).toInt32) hx hb dJ6_bitCount_0f7a4_38 rfl ?_
  refine lv_iadd hx hb dJ6_bitCount_0f7a4_39 ?_
  refine lv_topi (fun zd ezd => ?_)
  refine lv_istore_n (lv' := [(0, .int zd)]) hx hb dJ6_bitCount_0f7a4_40 rfl hl (by decide) rfl (fun ls hl => ?_)
  refine lv_iload_n hx hb dJ6_bitCount_0f7a4_41 rfl (lv_at hl 0 rfl) ?_
  refine lv_iload_n hx hb dJ6_bitCount_0f7a4_42 rfl (lv_at hl 0 rfl) ?_
  refine lv_bipush (v := nI 16) hx hb dJ6_bitCount_0f7a4_43 (by decide) ?_
  refine lv_iushr (v := (zd.toUInt32 >>> ((nI 16).toUInt32 &&& Int32.toUInt32 31)).toInt32) hx hb dJ6_bitCount_0f7a4_45 rfl ?_
  refine lv_iadd hx hb dJ6_bitCount_0f7a4_46 ?_
  refine lv_topi (fun ze eze => ?_)
  refine lv_istore_n (lv' := [(0, .int ze)]) hx hb dJ6_bitCount_0f7a4_47 rfl hl (by decide) rfl (fun ls hl => ?_)
  refine lv_iload_n hx hb dJ6_bitCount_0f7a4_48 rfl (lv_at hl 0 rfl) ?_
  refine lv_bipush (v := nI 63) hx hb dJ6_bitCount_0f7a4_49 (by decide) ?_
  refine lv_iand hx hb dJ6_bitCount_0f7a4_51 ?_
  refine gTop (y := nI (popc n)) (by rw [← bc_ok hn]; subst eza ezb ezc ezd eze; rfl) ?_
  exact gIret (hQ := hQ) hx hb hr hlocks hP hD hS () trivial (by rfl) [] (by decide) (by rfl) (Nat.le_of_ble_eq_true rfl) (Nat.le_of_ble_eq_true rfl) dJ6_bitCount_0f7a4_52

def rm_c_Tab_init : Room := { frames := 1, cells := 1, slots := 10, locals := 12 }
set_option maxHeartbeats 4000000 in
set_option maxRecDepth 100000 in
/-- Tables() -/
theorem c_Tab_init (l : Launch) (G : gG) (h : Nat) (x : Value)  : gMet (S := Nat) l G yX5_init wsX5_init rm_c_Tab_init [.ref h] [(h, .inr (8, [x, .int (nI 0), .int (nI 0)]))] (fun _ => True) (fun _ => none) (fun q => [(h, .inr (8, [.ref q, .int (nI 0), .int (nI 0)])), (q, .inl (G.2.2.1 0, 10, .inl (nA (fun _ => 0))))]) := by
  refine gOf (maxL := 1) (ret := none) (cc := cX5_init) (by decide) rfl (Nat.le_of_ble_eq_true rfl) ?_
  intro P9 e9 s m9 args below meth c9 A ls H locs Q hQ hx hb hml hr hown hts hlocks hin hK hP hD hS hA hE hl
  have hown : s.vm.findClass RX5 = some m9.cls := hown
  have hl : lv_has ls 1 [(0, .ref h)] := hl
  refine lv_aload_n hx hb dX5_init_0 rfl (lv_at hl 0 rfl) ?_
  refine W.objInit hx hb hown (hts (.methodLink RX5 3 objectInit) (by decide +kernel)) (hts (.instanceMethod objectInit) (by decide +kernel)) (hts _ (by decide +kernel)) rfl (by rw [hml]; exact hl.1) rfl dX5_init_1 (Nat.le_of_ble_eq_true rfl) (Nat.le_of_ble_eq_true rfl) ?_
  refine W.eq (g2 := F0 m9 4 ls []) rfl ?_
  refine lv_aload_n hx hb dX5_init_4 rfl (lv_at hl 0 rfl) ?_
  refine lv_bipush (v := nI 10) hx hb dX5_init_5 (by decide) ?_
  refine gN_newa (n := 10) hx hb (hts (.arrayClass .int) (by decide +kernel)) hK hP hD hS hA (by decide) (by decide) (Nat.le_of_ble_eq_true rfl) (Nat.le_of_ble_eq_true rfl) dX5_init_7 (fun q1 H hP hD hS => ?_)
  have hP : va_P (gD G) vwCl [(h, .inr (8, [x, .int (nI 0), .int (nI 0)])), (q1, .inl (G.2.2.1 0, 10, .inl (nA (fun _ => 0))))] H := hP
  have hD : va_D A [(h, .inr (8, [x, .int (nI 0), .int (nI 0)])), (q1, .inl (G.2.2.1 0, 10, .inl (nA (fun _ => 0))))] := hD
  refine W.widen (k := 1) (n := 10) (Nat.le_of_ble_eq_true rfl) (Nat.le_of_ble_eq_true rfl) ?_
  refine va_putF (D := gD G) (ci := 8) (v := .ref q1) (ty := (tyX5 0)) (C := RX5) (T := TX5) (N := 3) hx hb hts (by decide +kernel) tyX5 tyX5_ok nmX5 hown hK hP hD hS 0 rfl rfl 0 (by decide) (hts (.fieldLink RX5 9 "Degreewall$Tables" "lines" "[I") (by decide +kernel)) (fun _ h9 => h9) rfl hin rfl (by decide +kernel) rfl rfl (Nat.le_of_ble_eq_true rfl) dX5_init_9 (fun H locs hP hD hS => ?_)
  have hP : va_P (gD G) vwCl [(h, .inr (8, [.ref q1, .int (nI 0), .int (nI 0)])), (q1, .inl (G.2.2.1 0, 10, .inl (nA (fun _ => 0))))] H := hP
  have hD : va_D A [(h, .inr (8, [.ref q1, .int (nI 0), .int (nI 0)])), (q1, .inl (G.2.2.1 0, 10, .inl (nA (fun _ => 0))))] := hD
  exact gVret (hQ := hQ) hx hb hr hlocks hP hD hS q1 trivial (by rfl) [0, 1] (by decide) (by rfl) (Nat.le_of_ble_eq_true rfl) (Nat.le_of_ble_eq_true rfl) dX5_init_12

def rm_c_Tab_count : Room := { frames := 0, cells := 0, slots := 0, locals := 0 }
set_option maxHeartbeats 4000000 in
set_option maxRecDepth 100000 in
/-- count() -/
theorem c_Tab_count (l : Launch) (G : gG) (h : Nat) (ql : Nat) (L : Nat → Nat) (tc : Nat) (sk : Nat)  : gMet (S := Unit) l G yX5_count wsX5_count rm_c_Tab_count [.ref h] [(h, .inr (8, [.ref ql, .int (nI tc), .int (nI sk)])), (ql, .inl (G.2.2.1 0, 10, .inl (nA L)))] (fun _ => True) (fun _ => some (.int (nI tc))) (fun _ => [(h, .inr (8, [.ref ql, .int (nI tc), .int (nI sk)])), (ql, .inl (G.2.2.1 0, 10, .inl (nA L)))]) := by
  refine gOf (maxL := 1) (ret := (some .int)) (cc := cX5_count) (by decide) rfl (Nat.le_of_ble_eq_true rfl) ?_
  intro P9 e9 s m9 args below meth c9 A ls H locs Q hQ hx hb hml hr hown hts hlocks hin hK hP hD hS hA hE hl
  have hown : s.vm.findClass RX5 = some m9.cls := hown
  have hl : lv_has ls 1 [(0, .ref h)] := hl
  refine lv_aload_n hx hb dX5_count_0 rfl (lv_at hl 0 rfl) ?_
  refine va_get (D := gD G) (ci := 8) (v := .int (nI tc)) (C := RX5) (T := TX5) (N := 3) hx hb hts (by decide +kernel) hown hK hP 0 rfl rfl 1 (by decide) (hts (.fieldLink RX5 15 "Degreewall$Tables" "count" "I") (by decide +kernel)) (fun _ h9 => h9) rfl dX5_count_1 ?_
  exact gIret (hQ := hQ) hx hb hr hlocks hP hD hS () trivial (by rfl) [0, 1] (by decide) (by rfl) (Nat.le_of_ble_eq_true rfl) (Nat.le_of_ble_eq_true rfl) dX5_count_4

def rm_c_Tab_knows : Room := { frames := 0, cells := 0, slots := 0, locals := 0 }
set_option maxHeartbeats 4000000 in
set_option maxRecDepth 100000 in
/-- knows(k) of a table that is there -/
theorem c_Tab_knows (l : Launch) (G : gG) (h : Nat) (ql : Nat) (L : Nat → Nat) (tc : Nat) (sk : Nat) (k : Nat) (hk : 10 ≤ k) (hk2 : k < 10 + tc) (htc : tc ≤ 10) : gMet (S := Unit) l G yX5_knows wsX5_knows rm_c_Tab_knows [.ref h, .int (nI k)] [(h, .inr (8, [.ref ql, .int (nI tc), .int (nI sk)])), (ql, .inl (G.2.2.1 0, 10, .inl (nA L)))] (fun _ => True) (fun _ => some (.int (nI 1))) (fun _ => [(h, .inr (8, [.ref ql, .int (nI tc), .int (nI sk)])), (ql, .inl (G.2.2.1 0, 10, .inl (nA L)))]) := by
  refine gOf (maxL := 2) (ret := (some .boolean)) (cc := cX5_knows) (by decide) rfl (Nat.le_of_ble_eq_true rfl) ?_
  intro P9 e9 s m9 args below meth c9 A ls H locs Q hQ hx hb hml hr hown hts hlocks hin hK hP hD hS hA hE hl
  have hown : s.vm.findClass RX5 = some m9.cls := hown
  have hl : lv_has ls 2 [(0, .ref h), (1, .int (nI k))] := hl
  refine lv_iload_n hx hb dX5_knows_0 rfl (lv_at hl 1 rfl) ?_
  refine lv_bipush (v := nI 10) hx hb dX5_knows_1 (by decide) ?_
  refine gN_lt (tgt := 21) hx hb dX5_knows_3 (by decide) (by omega) (by decide) (fun c1 => absurd c1 (by omega)) (fun c1 => ?_)
  refine lv_iload_n hx hb dX5_knows_6 rfl (lv_at hl 1 rfl) ?_
  refine lv_bipush (v := nI 10) hx hb dX5_knows_7 (by decide) ?_
  refine lv_aload_n hx hb dX5_knows_9 rfl (lv_at hl 0 rfl) ?_
  refine va_get (D := gD G) (ci := 8) (v := .int (nI tc)) (C := RX5) (T := TX5) (N := 3) hx hb hts (by decide +kernel) hown hK hP 0 rfl rfl 1 (by decide) (hts (.fieldLink RX5 15 "Degreewall$Tables" "count" "I") (by decide +kernel)) (fun _ h9 => h9) rfl dX5_knows_10 ?_
  refine lv_iadd hx hb dX5_knows_13 ?_
  refine gTop (y := (nI (10 + tc))) (nI_add _ _) ?_
  refine gN_ge (tgt := 21) hx hb dX5_knows_14 (by decide) (by omega) (by omega) (fun c2 => absurd c2 (by omega)) (fun c2 => ?_)
  refine lv_iconst (v := nI 1) hx hb dX5_knows_17 (by decide) ?_
  refine lv_goto (tgt := 22) hx hb dX5_knows_18 (by decide) ?_
  exact gZret (hQ := hQ) hx hb hr hlocks (by first | exact Or.inl rfl | exact Or.inr rfl) hP hD hS () trivial (by rfl) [0, 1] (by decide) (by rfl) (Nat.le_of_ble_eq_true rfl) (Nat.le_of_ble_eq_true rfl) dX5_knows_22

def rm_c_Tab_line : Room := { frames := 0, cells := 0, slots := 0, locals := 0 }
set_option maxHeartbeats 4000000 in
set_option maxRecDepth 100000 in
/-- line(k) -/
theorem c_Tab_line (l : Launch) (G : gG) (h : Nat) (ql : Nat) (L : Nat → Nat) (tc : Nat) (sk : Nat) (k : Nat) (hk : 10 ≤ k) (hk2 : k < 20) : gMet (S := Unit) l G yX5_line wsX5_line rm_c_Tab_line [.ref h, .int (nI k)] [(h, .inr (8, [.ref ql, .int (nI tc), .int (nI sk)])), (ql, .inl (G.2.2.1 0, 10, .inl (nA L)))] (fun _ => True) (fun _ => some (.int (nI (L (k - 10))))) (fun _ => [(h, .inr (8, [.ref ql, .int (nI tc), .int (nI sk)])), (ql, .inl (G.2.2.1 0, 10, .inl (nA L)))]) := by
  refine gOf (maxL := 2) (ret := (some .int)) (cc := cX5_line) (by decide) rfl (Nat.le_of_ble_eq_true rfl) ?_
  intro P9 e9 s m9 args below meth c9 A ls H locs Q hQ hx hb hml hr hown hts hlocks hin hK hP hD hS hA hE hl
  have hown : s.vm.findClass RX5 = some m9.cls := hown
  have hl : lv_has ls 2 [(0, .ref h), (1, .int (nI k))] := hl
  refine lv_aload_n hx hb dX5_line_0 rfl (lv_at hl 0 rfl) ?_
  refine va_get (D := gD G) (ci := 8) (v := .ref ql) (C := RX5) (T := TX5) (N := 3) hx hb hts (by decide +kernel) hown hK hP 0 rfl rfl 0 (by decide) (hts (.fieldLink RX5 9 "Degreewall$Tables" "lines" "[I") (by decide +kernel)) (fun _ h9 => h9) rfl dX5_line_1 ?_
  refine lv_iload_n hx hb dX5_line_4 rfl (lv_at hl 1 rfl) ?_
  refine lv_bipush (v := nI 10) hx hb dX5_line_5 (by decide) ?_
  refine lv_isub hx hb dX5_line_7 ?_
  refine gTop (y := (nI (k - 10))) (pk_sub (by omega)) ?_
  refine gN_iald hx hb hK hP 1 0 rfl rfl (by omega) (by decide) dX5_line_8 ?_
  exact gIret (hQ := hQ) hx hb hr hlocks hP hD hS () trivial (by rfl) [0, 1] (by decide) (by rfl) (Nat.le_of_ble_eq_true rfl) (Nat.le_of_ble_eq_true rfl) dX5_line_9

def rm_c_Tab_isStruck : Room := { frames := 1, cells := 0, slots := 0, locals := 21 }
set_option maxHeartbeats 4000000 in
set_option maxRecDepth 100000 in
/-- isStruck(k) -/
theorem c_Tab_isStruck (l : Launch) (G : gG) (h : Nat) (ql : Nat) (L : Nat → Nat) (tc : Nat) (sk : Nat) (k : Nat) (hk : 10 ≤ k) (hk2 : k < 20) (hs : sk < 1024) : gMet (S := Unit) l G yX5_isStruck wsX5_isStruck rm_c_Tab_isStruck [.ref h, .int (nI k)] [(h, .inr (8, [.ref ql, .int (nI tc), .int (nI sk)])), (ql, .inl (G.2.2.1 0, 10, .inl (nA L)))] (fun _ => True) (fun _ => some (.int (nI (sk.testBit (k - 10)).toNat))) (fun _ => [(h, .inr (8, [.ref ql, .int (nI tc), .int (nI sk)])), (ql, .inl (G.2.2.1 0, 10, .inl (nA L)))]) := by
  refine gOf (maxL := 2) (ret := (some .boolean)) (cc := cX5_isStruck) (by decide) rfl (Nat.le_of_ble_eq_true rfl) ?_
  intro P9 e9 s m9 args below meth c9 A ls H locs Q hQ hx hb hml hr hown hts hlocks hin hK hP hD hS hA hE hl
  have hown : s.vm.findClass RX5 = some m9.cls := hown
  have hl : lv_has ls 2 [(0, .ref h), (1, .int (nI k))] := hl
  refine lv_aload_n hx hb dX5_isStruck_0 rfl (lv_at hl 0 rfl) ?_
  refine va_get (D := gD G) (ci := 8) (v := .int (nI sk)) (C := RX5) (T := TX5) (N := 3) hx hb hts (by decide +kernel) hown hK hP 0 rfl rfl 2 (by decide) (hts (.fieldLink RX5 19 "Degreewall$Tables" "struck" "I") (by decide +kernel)) (fun _ h9 => h9) rfl dX5_isStruck_1 ?_
  refine lv_iload_n hx hb dX5_isStruck_4 rfl (lv_at hl 1 rfl) ?_
  refine lv_bipush (v := nI 10) hx hb dX5_isStruck_5 (by decide) ?_
  refine lv_isub hx hb dX5_isStruck_7 ?_
  refine gTop (y := (nI (k - 10))) (pk_sub (by omega)) ?_
  refine gCSN (As := [.int (nI sk), .int (nI (k - 10))]) (rest := []) (wr := [(h, .inr (8, [.ref ql, .int (nI tc), .int (nI sk)])), (ql, .inl (G.2.2.1 0, 10, .inl (nA L)))]) hE (c_contains l G sk (k - 10) (by omega) (by omega)) ⟨va_cnB 2 hts ggX5_isStruck_X6_contains rfl rfl rfl (hE.nest 13 rfl) (hts (.initialized RX6) (by decide +kernel)) (by decide +kernel) ⟨Nat.le_of_ble_eq_true rfl, Nat.le_of_ble_eq_true rfl⟩, (hts (.static yX6_contains) (by decide +kernel)), trivial⟩ ⟨hx, hb, hml, hown, hts⟩ hK hP hD hS hA [] [0, 1] rfl rfl (by decide) (by decide) (by decide) rfl hl rfl (Nat.le_of_ble_eq_true rfl) dX5_isStruck_8 ⟨Nat.le_of_ble_eq_true rfl, Nat.le_of_ble_eq_true rfl⟩ (fun u9 H locs hu hP hD hS => ?_)
  have hP : va_P (gD G) vwCl [(h, .inr (8, [.ref ql, .int (nI tc), .int (nI sk)])), (ql, .inl (G.2.2.1 0, 10, .inl (nA L)))] H := hP
  have hD : va_D A [(h, .inr (8, [.ref ql, .int (nI tc), .int (nI sk)])), (ql, .inl (G.2.2.1 0, 10, .inl (nA L)))] := hD
  refine W.eq (g2 := F0 m9 11 ls [.int (nI ((sk.testBit (k - 10)).toNat))]) rfl ?_
  exact gZret (hQ := hQ) hx hb hr hlocks (by cases sk.testBit (k - 10) <;> first | exact Or.inl rfl | exact Or.inr rfl) hP hD hS () trivial (by rfl) [0, 1] (by decide) (by rfl) (Nat.le_of_ble_eq_true rfl) (Nat.le_of_ble_eq_true rfl) dX5_isStruck_11

def rm_c_Tab_countStruck : Room := { frames := 1, cells := 0, slots := 0, locals := 20 }
set_option maxHeartbeats 4000000 in
set_option maxRecDepth 100000 in
/-- countStruck() -/
theorem c_Tab_countStruck (l : Launch) (G : gG) (h : Nat) (ql : Nat) (L : Nat → Nat) (tc : Nat) (sk : Nat) (hs : sk < 1024) : gMet (S := Unit) l G yX5_countStruck wsX5_countStruck rm_c_Tab_countStruck [.ref h] [(h, .inr (8, [.ref ql, .int (nI tc), .int (nI sk)])), (ql, .inl (G.2.2.1 0, 10, .inl (nA L)))] (fun _ => True) (fun _ => some (.int (nI (popc sk)))) (fun _ => [(h, .inr (8, [.ref ql, .int (nI tc), .int (nI sk)])), (ql, .inl (G.2.2.1 0, 10, .inl (nA L)))]) := by
  refine gOf (maxL := 1) (ret := (some .int)) (cc := cX5_countStruck) (by decide) rfl (Nat.le_of_ble_eq_true rfl) ?_
  intro P9 e9 s m9 args below meth c9 A ls H locs Q hQ hx hb hml hr hown hts hlocks hin hK hP hD hS hA hE hl
  have hown : s.vm.findClass RX5 = some m9.cls := hown
  have hl : lv_has ls 1 [(0, .ref h)] := hl
  refine lv_aload_n hx hb dX5_countStruck_0 rfl (lv_at hl 0 rfl) ?_
  refine va_get (D := gD G) (ci := 8) (v := .int (nI sk)) (C := RX5) (T := TX5) (N := 3) hx hb hts (by decide +kernel) hown hK hP 0 rfl rfl 2 (by decide) (hts (.fieldLink RX5 19 "Degreewall$Tables" "struck" "I") (by decide +kernel)) (fun _ h9 => h9) rfl dX5_countStruck_1 ?_
  refine gCS (As := [.int (nI sk)]) (rest := []) (wr := [(h, .inr (8, [.ref ql, .int (nI tc), .int (nI sk)])), (ql, .inl (G.2.2.1 0, 10, .inl (nA L)))]) hE (c_bitCount l G sk hs) (va_cwS 1 hts gX5_countStruck_J6_bitCount_0f7a4 rfl rfl rfl (by decide +kernel) ⟨Nat.le_of_ble_eq_true rfl, Nat.le_of_ble_eq_true rfl⟩) ⟨hx, hb, hml, hown, hts⟩ hK hP hD hS hA [] [0, 1] rfl rfl (by decide) (by decide) (by decide) rfl hl rfl (Nat.le_of_ble_eq_true rfl) dX5_countStruck_4 ⟨Nat.le_of_ble_eq_true rfl, Nat.le_of_ble_eq_true rfl⟩ (fun u9 H locs hu hP hD hS => ?_)
  have hP : va_P (gD G) vwCl [(h, .inr (8, [.ref ql, .int (nI tc), .int (nI sk)])), (ql, .inl (G.2.2.1 0, 10, .inl (nA L)))] H := hP
  have hD : va_D A [(h, .inr (8, [.ref ql, .int (nI tc), .int (nI sk)])), (ql, .inl (G.2.2.1 0, 10, .inl (nA L)))] := hD
  refine W.eq (g2 := F0 m9 7 ls [.int (nI (popc sk))]) rfl ?_
  exact gIret (hQ := hQ) hx hb hr hlocks hP hD hS () trivial (by rfl) [0, 1] (by decide) (by rfl) (Nat.le_of_ble_eq_true rfl) (Nat.le_of_ble_eq_true rfl) dX5_countStruck_7

def rm_c_Tab_add : Room := { frames := 0, cells := 0, slots := 0, locals := 0 }
set_option maxHeartbeats 4000000 in
set_option maxRecDepth 100000 in
/-- add(line) -/
theorem c_Tab_add (l : Launch) (G : gG) (h : Nat) (ql : Nat) (L : Nat → Nat) (tc : Nat) (sk : Nat) (line : Nat) (ht : tc < 10) : gMet (S := Unit) l G yX5_add wsX5_add rm_c_Tab_add [.ref h, .int (nI line)] [(h, .inr (8, [.ref ql, .int (nI tc), .int (nI sk)])), (ql, .inl (G.2.2.1 0, 10, .inl (nA L)))] (fun _ => True) (fun _ => some (.int (nI (10 + tc)))) (fun _ => [(h, .inr (8, [.ref ql, .int (nI (tc + 1)), .int (nI sk)])), (ql, .inl (G.2.2.1 0, 10, .inl (nA (va_up L tc line))))]) := by
  refine gOf (maxL := 2) (ret := (some .int)) (cc := cX5_add) (by decide) rfl (Nat.le_of_ble_eq_true rfl) ?_
  intro P9 e9 s m9 args below meth c9 A ls H locs Q hQ hx hb hml hr hown hts hlocks hin hK hP hD hS hA hE hl
  have hown : s.vm.findClass RX5 = some m9.cls := hown
  have hl : lv_has ls 2 [(0, .ref h), (1, .int (nI line))] := hl
  refine lv_aload_n hx hb dX5_add_0 rfl (lv_at hl 0 rfl) ?_
  refine va_get (D := gD G) (ci := 8) (v := .ref ql) (C := RX5) (T := TX5) (N := 3) hx hb hts (by decide +kernel) hown hK hP 0 rfl rfl 0 (by decide) (hts (.fieldLink RX5 9 "Degreewall$Tables" "lines" "[I") (by decide +kernel)) (fun _ h9 => h9) rfl dX5_add_1 ?_
  refine lv_aload_n hx hb dX5_add_4 rfl (lv_at hl 0 rfl) ?_
  refine va_get (D := gD G) (ci := 8) (v := .int (nI tc)) (C := RX5) (T := TX5) (N := 3) hx hb hts (by decide +kernel) hown hK hP 0 rfl rfl 1 (by decide) (hts (.fieldLink RX5 15 "Degreewall$Tables" "count" "I") (by decide +kernel)) (fun _ h9 => h9) rfl dX5_add_5 ?_
  refine lv_iload_n hx hb dX5_add_8 rfl (lv_at hl 1 rfl) ?_
  refine gN_iast hx hb hK hP hD hS 1 0 rfl rfl (by omega) (by decide) dX5_add_9 (fun H locs hP hD hS => ?_)
  have hP : va_P (gD G) vwCl [(h, .inr (8, [.ref ql, .int (nI tc), .int (nI sk)])), (ql, .inl (G.2.2.1 0, 10, .inl (nA (va_up L tc line))))] H := hP
  have hD : va_D A [(h, .inr (8, [.ref ql, .int (nI tc), .int (nI sk)])), (ql, .inl (G.2.2.1 0, 10, .inl (nA (va_up L tc line))))] := hD
  refine lv_aload_n hx hb dX5_add_10 rfl (lv_at hl 0 rfl) ?_
  refine lv_dup hx hb dX5_add_11 rfl ?_
  refine va_get (D := gD G) (ci := 8) (v := .int (nI tc)) (C := RX5) (T := TX5) (N := 3) hx hb hts (by decide +kernel) hown hK hP 0 rfl rfl 1 (by decide) (hts (.fieldLink RX5 15 "Degreewall$Tables" "count" "I") (by decide +kernel)) (fun _ h9 => h9) rfl dX5_add_12 ?_
  refine lv_iconst (v := nI 1) hx hb dX5_add_15 (by decide) ?_
  refine lv_iadd hx hb dX5_add_16 ?_
  refine gTop (y := (nI (tc + 1))) (nI_add _ _) ?_
  refine va_put (D := gD G) (ci := 8) (v := .int (nI (tc + 1))) (ty := .int) (C := RX5) (T := TX5) (N := 3) hx hb hts (by decide +kernel) tyX5 tyX5_ok nmX5 hown hK hP hD hS 0 rfl rfl 1 (by decide) (hts (.fieldLink RX5 15 "Degreewall$Tables" "count" "I") (by decide +kernel)) (fun _ h9 => h9) rfl (by decide +kernel) rfl rfl (Nat.le_of_ble_eq_true rfl) dX5_add_17 (fun H locs hP hD hS => ?_)
  have hP : va_P (gD G) vwCl [(h, .inr (8, [.ref ql, .int (nI (tc + 1)), .int (nI sk)])), (ql, .inl (G.2.2.1 0, 10, .inl (nA (va_up L tc line))))] H := hP
  have hD : va_D A [(h, .inr (8, [.ref ql, .int (nI (tc + 1)), .int (nI sk)])), (ql, .inl (G.2.2.1 0, 10, .inl (nA (va_up L tc line))))] := hD
  refine lv_bipush (v := nI 10) hx hb dX5_add_20 (by decide) ?_
  refine lv_aload_n hx hb dX5_add_22 rfl (lv_at hl 0 rfl) ?_
  refine va_get (D := gD G) (ci := 8) (v := .int (nI (tc + 1))) (C := RX5) (T := TX5) (N := 3) hx hb hts (by decide +kernel) hown hK hP 0 rfl rfl 1 (by decide) (hts (.fieldLink RX5 15 "Degreewall$Tables" "count" "I") (by decide +kernel)) (fun _ h9 => h9) rfl dX5_add_23 ?_
  refine lv_iadd hx hb dX5_add_26 ?_
  refine gTop (y := (nI (10 + tc + 1))) (nI_add _ _) ?_
  refine lv_iconst (v := nI 1) hx hb dX5_add_27 (by decide) ?_
  refine lv_isub hx hb dX5_add_28 ?_
  refine gTop (y := (nI ((10 + tc + 1) - 1))) (pk_sub (by omega)) ?_
  refine gTop (y := nI (10 + tc)) (congrArg nI (by omega)) ?_
  exact gIret (hQ := hQ) hx hb hr hlocks hP hD hS () trivial (by rfl) [0, 1] (by decide) (by rfl) (Nat.le_of_ble_eq_true rfl) (Nat.le_of_ble_eq_true rfl) dX5_add_29

def rm_c_Tab_strike : Room := { frames := 2, cells := 0, slots := 0, locals := 45 }
set_option maxHeartbeats 4000000 in
set_option maxRecDepth 100000 in
/-- strike(kinship) -/
theorem c_Tab_strike (l : Launch) (G : gG) (h : Nat) (ql : Nat) (L : Nat → Nat) (tc : Nat) (sk : Nat) (hk : Nat) (hl0 : Nat) (qn : Nat) (qb : Nat) (f : Nat → Nat) (g : Nat → Nat) (cnt : Nat) (br : Nat) (hs : sk < 1024) (ht : tc ≤ 10) (hg7 : m7 g) (hc : cnt ≤ 7) (hL : ∀ p, p < tc → L p < 128) : gMet (S := Nat × Int32) l G yX5_strike wsX5_strike rm_c_Tab_strike [.ref h, .ref hk] [(h, .inr (8, [.ref ql, .int (nI tc), .int (nI sk)])), (ql, .inl (G.2.2.1 0, 10, .inl (nA L))), (hk, .inr (3, [.ref hl0, .ref qb, .int (nI cnt), .int (nI br)])), (hl0, .inr (4, [.ref qn])), (qn, .inl (G.2.2.1 0, 7, .inl (nA f))), (qb, .inl (G.2.2.1 0, 7, .inl (nA g)))] (fun u => u.1 < 1024 ∧ ∀ p, u.1.testBit p = true ↔ (sk.testBit p = true ∨ (p < tc ∧ anyP g (L p) cnt))) (fun u => some (.int u.2)) (fun u => [(h, .inr (8, [.ref ql, .int (nI tc), .int (nI u.1)])), (ql, .inl (G.2.2.1 0, 10, .inl (nA L))), (hk, .inr (3, [.ref hl0, .ref qb, .int (nI cnt), .int (nI br)])), (hl0, .inr (4, [.ref qn])), (qn, .inl (G.2.2.1 0, 7, .inl (nA f))), (qb, .inl (G.2.2.1 0, 7, .inl (nA g)))]) := by
  refine gOf (maxL := 4) (ret := (some .int)) (cc := cX5_strike) (by decide) rfl (Nat.le_of_ble_eq_true rfl) ?_
  intro P9 e9 s m9 args below meth c9 A ls H locs Q hQ hx hb hml hr hown hts hlocks hin hK hP hD hS hA hE hl
  have hown : s.vm.findClass RX5 = some m9.cls := hown
  have hl : lv_has ls 4 [(0, .ref h), (1, .ref hk)] := hl
  have hc2 : cnt < 2 ^ 31 := by omega
  refine lv_aload_n hx hb dX5_strike_0 rfl (lv_at hl 0 rfl) ?_
  refine gCV (ci := 8) (q0 := 0) (C := RX5) (As := []) (rest := []) (wr := [(hk, .inr (3, [.ref hl0, .ref qb, .int (nI cnt), .int (nI br)])), (hl0, .inr (4, [.ref qn])), (qn, .inl (G.2.2.1 0, 7, .inl (nA f))), (qb, .inl (G.2.2.1 0, 7, .inl (nA g)))]) hE (c_Tab_countStruck l G h ql L tc sk hs) (cwV 0 hts gX5_strike_X5_countStruck rfl rfl rfl (by decide +kernel) ⟨Nat.le_of_ble_eq_true rfl, Nat.le_of_ble_eq_true rfl⟩) ⟨hx, hb, hml, hown, hts⟩ hK hP hD hS hA [0, 1] [2, 3, 4, 5] rfl rfl (by decide) (by decide) (by decide) rfl rfl rfl hl rfl (Nat.le_of_ble_eq_true rfl) dX5_strike_1 ⟨Nat.le_of_ble_eq_true rfl, Nat.le_of_ble_eq_true rfl⟩ (fun u9 H locs hu hP hD hS => ?_)
  have hP : va_P (gD G) vwCl [(hk, .inr (3, [.ref hl0, .ref qb, .int (nI cnt), .int (nI br)])), (hl0, .inr (4, [.ref qn])), (qn, .inl (G.2.2.1 0, 7, .inl (nA f))), (qb, .inl (G.2.2.1 0, 7, .inl (nA g))), (h, .inr (8, [.ref ql, .int (nI tc), .int (nI sk)])), (ql, .inl (G.2.2.1 0, 10, .inl (nA L)))] H := hP
  have hD : va_D A [(hk, .inr (3, [.ref hl0, .ref qb, .int (nI cnt), .int (nI br)])), (hl0, .inr (4, [.ref qn])), (qn, .inl (G.2.2.1 0, 7, .inl (nA f))), (qb, .inl (G.2.2.1 0, 7, .inl (nA g))), (h, .inr (8, [.ref ql, .int (nI tc), .int (nI sk)])), (ql, .inl (G.2.2.1 0, 10, .inl (nA L)))] := hD
  refine W.eq (g2 := F0 m9 4 ls [.int (nI (popc sk))]) rfl ?_
  refine lv_istore_n (lv' := [(2, .int (nI (popc sk))), (0, .ref h), (1, .ref hk)]) hx hb dX5_strike_4 rfl hl (by decide) rfl (fun ls hl => ?_)
  refine lv_iconst (v := nI 0) hx hb dX5_strike_5 (by decide) ?_
  refine lv_istore_n (lv' := [(3, .int (nI 0)), (2, .int (nI (popc sk))), (0, .ref h), (1, .ref hk)]) hx hb dX5_strike_6 rfl hl (by decide) rfl (fun ls hl => ?_)
  suffices L1 : ∀ (n i : Nat) (s2 : Nat), i + n = tc → (s2 < 1024) → (∀ q, s2.testBit q = true ↔ (sk.testBit q = true ∨ (q < i ∧ anyP g (L q) cnt))) → ∀ (H : Heap) (locs : List Loc), va_P (gD G) vwCl [(h, .inr (8, [.ref ql, .int (nI tc), .int (nI s2)])), (ql, .inl (G.2.2.1 0, 10, .inl (nA L))), (hk, .inr (3, [.ref hl0, .ref qb, .int (nI cnt), .int (nI br)])), (hl0, .inr (4, [.ref qn])), (qn, .inl (G.2.2.1 0, 7, .inl (nA f))), (qb, .inl (G.2.2.1 0, 7, .inl (nA g)))] H → va_D A [(h, .inr (8, [.ref ql, .int (nI tc), .int (nI s2)])), (ql, .inl (G.2.2.1 0, 10, .inl (nA L))), (hk, .inr (3, [.ref hl0, .ref qb, .int (nI cnt), .int (nI br)])), (hl0, .inr (4, [.ref qn])), (qn, .inl (G.2.2.1 0, 7, .inl (nA f))), (qb, .inl (G.2.2.1 0, 7, .inl (nA g)))] → va_S A s.heap H locs → ∀ ls : Array Slot, lv_has ls 4 [(0, .ref h), (1, .ref hk), (2, .int (nI (popc sk))), (3, .int (nI i))] → W P9 l e9 rm_c_Tab_strike s m9 args below meth c9 H locs 0 0 Q (F0 m9 7 ls []) by
    exact L1 _ 0 sk (Nat.add_sub_cancel' (by omega)) hs (fun q => ⟨Or.inl, fun h => h.elim id (fun z => absurd z.1 (Nat.not_lt_zero q))⟩) _ _ (hP.sub [4, 5, 0, 1, 2, 3] rfl) (hD.sub [4, 5, 0, 1, 2, 3] (by decide) rfl) hS _ (lv_sub hl [2, 3, 1, 0] rfl)
  intro n
  induction n with
  | zero =>
    intro i s2 hi hs2 hst H locs hP hD hS ls hl
    refine lv_iload_n hx hb dX5_strike_7 rfl (lv_at hl 3 rfl) ?_
    refine lv_aload_n hx hb dX5_strike_8 rfl (lv_at hl 0 rfl) ?_
    refine va_get (D := gD G) (ci := 8) (v := .int (nI tc)) (C := RX5) (T := TX5) (N := 3) hx hb hts (by decide +kernel) hown hK hP 0 rfl rfl 1 (by decide) (hts (.fieldLink RX5 15 "Degreewall$Tables" "count" "I") (by decide +kernel)) (fun _ h9 => h9) rfl dX5_strike_9 ?_
    refine gN_ge (tgt := 47) hx hb dX5_strike_12 (by decide) (by omega) (by omega) (fun c2 => ?_) (fun c2 => absurd c2 (by omega))
    refine lv_aload_n hx hb dX5_strike_47 rfl (lv_at hl 0 rfl) ?_
    refine gCV (ci := 8) (q0 := 0) (C := RX5) (As := []) (rest := []) (wr := [(hk, .inr (3, [.ref hl0, .ref qb, .int (nI cnt), .int (nI br)])), (hl0, .inr (4, [.ref qn])), (qn, .inl (G.2.2.1 0, 7, .inl (nA f))), (qb, .inl (G.2.2.1 0, 7, .inl (nA g)))]) hE (c_Tab_countStruck l G h ql L tc s2 hs2) (cwV 0 hts gX5_strike_X5_countStruck rfl rfl rfl (by decide +kernel) ⟨Nat.le_of_ble_eq_true rfl, Nat.le_of_ble_eq_true rfl⟩) ⟨hx, hb, hml, hown, hts⟩ hK hP hD hS hA [0, 1] [2, 3, 4, 5] rfl rfl (by decide) (by decide) (by decide) rfl rfl rfl hl rfl (Nat.le_of_ble_eq_true rfl) dX5_strike_48 ⟨Nat.le_of_ble_eq_true rfl, Nat.le_of_ble_eq_true rfl⟩ (fun u9 H locs hu hP hD hS => ?_)
    have hP : va_P (gD G) vwCl [(hk, .inr (3, [.ref hl0, .ref qb, .int (nI cnt), .int (nI br)])), (hl0, .inr (4, [.ref qn])), (qn, .inl (G.2.2.1 0, 7, .inl (nA f))), (qb, .inl (G.2.2.1 0, 7, .inl (nA g))), (h, .inr (8, [.ref ql, .int (nI tc), .int (nI s2)])), (ql, .inl (G.2.2.1 0, 10, .inl (nA L)))] H := hP
    have hD : va_D A [(hk, .inr (3, [.ref hl0, .ref qb, .int (nI cnt), .int (nI br)])), (hl0, .inr (4, [.ref qn])), (qn, .inl (G.2.2.1 0, 7, .inl (nA f))), (qb, .inl (G.2.2.1 0, 7, .inl (nA g))), (h, .inr (8, [.ref ql, .int (nI tc), .int (nI s2)])), (ql, .inl (G.2.2.1 0, 10, .inl (nA L)))] := hD
    refine W.eq (g2 := F0 m9 51 ls [.int (nI (popc s2))]) rfl ?_
    refine lv_iload_n hx hb dX5_strike_51 rfl (lv_at hl 2 rfl) ?_
    refine lv_isub hx hb dX5_strike_52 ?_
    exact gIret (hQ := hQ) hx hb hr hlocks hP hD hS (s2, ((nI (popc s2)) - (nI (popc sk)))) ⟨hs2, fun q => by rw [hst q, show i = tc by omega]⟩ (by rfl) [4, 5, 0, 1, 2, 3] (by decide) (by rfl) (Nat.le_of_ble_eq_true rfl) (Nat.le_of_ble_eq_true rfl) dX5_strike_53
  | succ n ih =>
    intro i s2 hi hs2 hst H locs hP hD hS ls hl
    refine lv_iload_n hx hb dX5_strike_7 rfl (lv_at hl 3 rfl) ?_
    refine lv_aload_n hx hb dX5_strike_8 rfl (lv_at hl 0 rfl) ?_
    refine va_get (D := gD G) (ci := 8) (v := .int (nI tc)) (C := RX5) (T := TX5) (N := 3) hx hb hts (by decide +kernel) hown hK hP 0 rfl rfl 1 (by decide) (hts (.fieldLink RX5 15 "Degreewall$Tables" "count" "I") (by decide +kernel)) (fun _ h9 => h9) rfl dX5_strike_9 ?_
    refine gN_ge (tgt := 47) hx hb dX5_strike_12 (by decide) (by omega) (by omega) (fun c3 => absurd c3 (by omega)) (fun c3 => ?_)
    refine lv_aload_n hx hb dX5_strike_15 rfl (lv_at hl 1 rfl) ?_
    refine lv_aload_n hx hb dX5_strike_16 rfl (lv_at hl 0 rfl) ?_
    refine va_get (D := gD G) (ci := 8) (v := .ref ql) (C := RX5) (T := TX5) (N := 3) hx hb hts (by decide +kernel) hown hK hP 0 rfl rfl 0 (by decide) (hts (.fieldLink RX5 9 "Degreewall$Tables" "lines" "[I") (by decide +kernel)) (fun _ h9 => h9) rfl dX5_strike_17 ?_
    refine lv_iload_n hx hb dX5_strike_20 rfl (lv_at hl 3 rfl) ?_
    refine gN_iald hx hb hK hP 1 0 rfl rfl (by omega) (by decide) dX5_strike_21 ?_
    refine gCV (ci := 3) (q0 := 0) (C := RX0) (As := [.int (nI (L i))]) (rest := []) (wr := [(h, .inr (8, [.ref ql, .int (nI tc), .int (nI s2)])), (ql, .inl (G.2.2.1 0, 10, .inl (nA L)))]) hE (c_Kin_firstPairWithin l G hk hl0 qn qb f g cnt br (L i) hg7 (by omega) (hL i (by omega))) (cwV 1 hts gX5_strike_X0_firstPairWithin rfl rfl rfl (by decide +kernel) ⟨Nat.le_of_ble_eq_true rfl, Nat.le_of_ble_eq_true rfl⟩) ⟨hx, hb, hml, hown, hts⟩ hK hP hD hS hA [2, 3, 4, 5] [0, 1] rfl rfl (by decide) (by decide) (by decide) rfl rfl rfl hl rfl (Nat.le_of_ble_eq_true rfl) dX5_strike_22 ⟨Nat.le_of_ble_eq_true rfl, Nat.le_of_ble_eq_true rfl⟩ (fun r4 H locs hu hP hD hS => ?_)
    have hr4 : pairR g (L i) cnt r4 := hu
    have hP : va_P (gD G) vwCl [(h, .inr (8, [.ref ql, .int (nI tc), .int (nI s2)])), (ql, .inl (G.2.2.1 0, 10, .inl (nA L))), (hk, .inr (3, [.ref hl0, .ref qb, .int (nI cnt), .int (nI br)])), (hl0, .inr (4, [.ref qn])), (qn, .inl (G.2.2.1 0, 7, .inl (nA f))), (qb, .inl (G.2.2.1 0, 7, .inl (nA g)))] H := hP
    have hD : va_D A [(h, .inr (8, [.ref ql, .int (nI tc), .int (nI s2)])), (ql, .inl (G.2.2.1 0, 10, .inl (nA L))), (hk, .inr (3, [.ref hl0, .ref qb, .int (nI cnt), .int (nI br)])), (hl0, .inr (4, [.ref qn])), (qn, .inl (G.2.2.1 0, 7, .inl (nA f))), (qb, .inl (G.2.2.1 0, 7, .inl (nA g)))] := hD
    refine W.eq (g2 := F0 m9 25 ls [.int r4]) rfl ?_
    refine lv_iconst (v := (-1)) hx hb dX5_strike_25 (by decide) ?_
    refine lv_icmp_eq (tgt := 41) hx hb dX5_strike_26 (by decide) (fun c5 => ?_) (fun c5 => ?_)
    · refine lv_iinc (lv' := [(3, .int (nI (i + 1))), (0, .ref h), (1, .ref hk), (2, .int (nI (popc sk)))]) hx hb dX5_strike_41 hl (k := 3) rfl (n_inc _) (by decide) rfl (fun ls hl => ?_)
      refine lv_goto (tgt := 7) hx hb dX5_strike_44 (by decide) ?_
      exact ih (i + 1) s2 (by omega) hs2 (fun q => by rw [hst q]; exact or_congr Iff.rfl ⟨fun z => ⟨by omega, z.2⟩, fun z => ⟨by rcases Nat.lt_or_ge q i with y | y; (exact y); (exact absurd (show anyP g (L i) cnt from (show q = i by omega) ▸ z.2) (pairR_no hc hr4 c5)), z.2⟩⟩) _ _ (hP.sub [0, 1, 2, 3, 4, 5] rfl) (hD.sub [0, 1, 2, 3, 4, 5] (by decide) rfl) hS _ (lv_sub hl [1, 2, 3, 0] rfl)
    · refine lv_aload_n hx hb dX5_strike_29 rfl (lv_at hl 0 rfl) ?_
      refine lv_dup hx hb dX5_strike_30 rfl ?_
      refine va_get (D := gD G) (ci := 8) (v := .int (nI s2)) (C := RX5) (T := TX5) (N := 3) hx hb hts (by decide +kernel) hown hK hP 0 rfl rfl 2 (by decide) (hts (.fieldLink RX5 19 "Degreewall$Tables" "struck" "I") (by decide +kernel)) (fun _ h9 => h9) rfl dX5_strike_31 ?_
      refine lv_iconst (v := nI 1) hx hb dX5_strike_34 (by decide) ?_
      refine lv_iload_n hx hb dX5_strike_35 rfl (lv_at hl 3 rfl) ?_
      refine lv_ishl hx hb dX5_strike_36 ?_
      refine gTop (y := (nI (2 ^ i))) (n_one_shl (by omega)) ?_
      refine lv_ior hx hb dX5_strike_37 ?_
      refine gTop (y := (nI (s2 ||| (2 ^ i)))) (n_or _ _) ?_
      refine va_put (D := gD G) (ci := 8) (v := .int (nI (s2 ||| (2 ^ i)))) (ty := .int) (C := RX5) (T := TX5) (N := 3) hx hb hts (by decide +kernel) tyX5 tyX5_ok nmX5 hown hK hP hD hS 0 rfl rfl 2 (by decide) (hts (.fieldLink RX5 19 "Degreewall$Tables" "struck" "I") (by decide +kernel)) (fun _ h9 => h9) rfl (by decide +kernel) rfl rfl (Nat.le_of_ble_eq_true rfl) dX5_strike_38 (fun H locs hP hD hS => ?_)
      have hP : va_P (gD G) vwCl [(h, .inr (8, [.ref ql, .int (nI tc), .int (nI (s2 ||| (2 ^ i)))])), (ql, .inl (G.2.2.1 0, 10, .inl (nA L))), (hk, .inr (3, [.ref hl0, .ref qb, .int (nI cnt), .int (nI br)])), (hl0, .inr (4, [.ref qn])), (qn, .inl (G.2.2.1 0, 7, .inl (nA f))), (qb, .inl (G.2.2.1 0, 7, .inl (nA g)))] H := hP
      have hD : va_D A [(h, .inr (8, [.ref ql, .int (nI tc), .int (nI (s2 ||| (2 ^ i)))])), (ql, .inl (G.2.2.1 0, 10, .inl (nA L))), (hk, .inr (3, [.ref hl0, .ref qb, .int (nI cnt), .int (nI br)])), (hl0, .inr (4, [.ref qn])), (qn, .inl (G.2.2.1 0, 7, .inl (nA f))), (qb, .inl (G.2.2.1 0, 7, .inl (nA g)))] := hD
      refine lv_iinc (lv' := [(3, .int (nI (i + 1))), (0, .ref h), (1, .ref hk), (2, .int (nI (popc sk)))]) hx hb dX5_strike_41 hl (k := 3) rfl (n_inc _) (by decide) rfl (fun ls hl => ?_)
      refine lv_goto (tgt := 7) hx hb dX5_strike_44 (by decide) ?_
      exact ih (i + 1) (s2 ||| 2 ^ i) (by omega) (Nat.or_lt_two_pow (n := 10) hs2 (Nat.pow_lt_pow_right (by decide) (by omega))) (fun q => by rw [Nat.testBit_or, Bool.or_eq_true, hst q, Nat.testBit_two_pow, decide_eq_true_iff]; constructor; (rintro ((z | z) | rfl)); (exact Or.inl z); (exact Or.inr ⟨by omega, z.2⟩); (exact Or.inr ⟨by omega, pairR_yes hr4 c5⟩); (rintro (z | z)); (exact Or.inl (Or.inl z)); (rcases Nat.lt_or_ge q i with y | y); (exact Or.inl (Or.inr ⟨y, z.2⟩)); (exact Or.inr (by omega))) _ _ (hP.sub [0, 1, 2, 3, 4, 5] rfl) (hD.sub [0, 1, 2, 3, 4, 5] (by decide) rfl) hS _ (lv_sub hl [1, 2, 3, 0] rfl)

def rm_c_Tab_areSound : Room := { frames := 2, cells := 0, slots := 0, locals := 45 }
set_option maxHeartbeats 4000000 in
set_option maxRecDepth 100000 in
/-- areSound(kinship) -/
theorem c_Tab_areSound (l : Launch) (G : gG) (h : Nat) (ql : Nat) (L : Nat → Nat) (tc : Nat) (sk : Nat) (hk : Nat) (hl0 : Nat) (qn : Nat) (qb : Nat) (f : Nat → Nat) (g : Nat → Nat) (cnt : Nat) (br : Nat) (hs : sk < 1024) (ht : tc ≤ 10) (hg7 : m7 g) (hc : cnt ≤ 7) (hL : ∀ p, p < tc → L p < 128) (hok : ∀ p, p < tc → sk.testBit p = false → ¬ anyP g (L p) cnt) : gMet (S := Unit) l G yX5_areSound wsX5_areSound rm_c_Tab_areSound [.ref h, .ref hk] [(h, .inr (8, [.ref ql, .int (nI tc), .int (nI sk)])), (ql, .inl (G.2.2.1 0, 10, .inl (nA L))), (hk, .inr (3, [.ref hl0, .ref qb, .int (nI cnt), .int (nI br)])), (hl0, .inr (4, [.ref qn])), (qn, .inl (G.2.2.1 0, 7, .inl (nA f))), (qb, .inl (G.2.2.1 0, 7, .inl (nA g)))] (fun _ => True) (fun _ => some (.int (nI 1))) (fun u => [(h, .inr (8, [.ref ql, .int (nI tc), .int (nI sk)])), (ql, .inl (G.2.2.1 0, 10, .inl (nA L))), (hk, .inr (3, [.ref hl0, .ref qb, .int (nI cnt), .int (nI br)])), (hl0, .inr (4, [.ref qn])), (qn, .inl (G.2.2.1 0, 7, .inl (nA f))), (qb, .inl (G.2.2.1 0, 7, .inl (nA g)))]) := by
  refine gOf (maxL := 3) (ret := (some .boolean)) (cc := cX5_areSound) (by decide) rfl (Nat.le_of_ble_eq_true rfl) ?_
  intro P9 e9 s m9 args below meth c9 A ls H locs Q hQ hx hb hml hr hown hts hlocks hin hK hP hD hS hA hE hl
  have hown : s.vm.findClass RX5 = some m9.cls := hown
  have hl : lv_has ls 3 [(0, .ref h), (1, .ref hk)] := hl
  have hc2 : cnt < 2 ^ 31 := by omega
  refine lv_iconst (v := nI 0) hx hb dX5_areSound_0 (by decide) ?_
  refine lv_istore_n (lv' := [(2, .int (nI 0)), (0, .ref h), (1, .ref hk)]) hx hb dX5_areSound_1 rfl hl (by decide) rfl (fun ls hl => ?_)
  suffices L1 : ∀ (n i : Nat), i + n = tc → ∀ (H : Heap) (locs : List Loc), va_P (gD G) vwCl [(h, .inr (8, [.ref ql, .int (nI tc), .int (nI sk)])), (ql, .inl (G.2.2.1 0, 10, .inl (nA L))), (hk, .inr (3, [.ref hl0, .ref qb, .int (nI cnt), .int (nI br)])), (hl0, .inr (4, [.ref qn])), (qn, .inl (G.2.2.1 0, 7, .inl (nA f))), (qb, .inl (G.2.2.1 0, 7, .inl (nA g)))] H → va_D A [(h, .inr (8, [.ref ql, .int (nI tc), .int (nI sk)])), (ql, .inl (G.2.2.1 0, 10, .inl (nA L))), (hk, .inr (3, [.ref hl0, .ref qb, .int (nI cnt), .int (nI br)])), (hl0, .inr (4, [.ref qn])), (qn, .inl (G.2.2.1 0, 7, .inl (nA f))), (qb, .inl (G.2.2.1 0, 7, .inl (nA g)))] → va_S A s.heap H locs → ∀ ls : Array Slot, lv_has ls 3 [(0, .ref h), (1, .ref hk), (2, .int (nI i))] → W P9 l e9 rm_c_Tab_areSound s m9 args below meth c9 H locs 0 0 Q (F0 m9 2 ls []) by
    exact L1 _ 0  (Nat.add_sub_cancel' (by omega))  _ _ (hP.sub [0, 1, 2, 3, 4, 5] rfl) (hD.sub [0, 1, 2, 3, 4, 5] (by decide) rfl) hS _ (lv_sub hl [1, 2, 0] rfl)
  intro n
  induction n with
  | zero =>
    intro i hi H locs hP hD hS ls hl
    refine lv_iload_n hx hb dX5_areSound_2 rfl (lv_at hl 2 rfl) ?_
    refine lv_aload_n hx hb dX5_areSound_3 rfl (lv_at hl 0 rfl) ?_
    refine va_get (D := gD G) (ci := 8) (v := .int (nI tc)) (C := RX5) (T := TX5) (N := 3) hx hb hts (by decide +kernel) hown hK hP 0 rfl rfl 1 (by decide) (hts (.fieldLink RX5 15 "Degreewall$Tables" "count" "I") (by decide +kernel)) (fun _ h9 => h9) rfl dX5_areSound_4 ?_
    refine gN_ge (tgt := 43) hx hb dX5_areSound_7 (by decide) (by omega) (by omega) (fun c2 => ?_) (fun c2 => absurd c2 (by omega))
    refine lv_iconst (v := nI 1) hx hb dX5_areSound_43 (by decide) ?_
    exact gZret (hQ := hQ) hx hb hr hlocks (by first | exact Or.inl rfl | exact Or.inr rfl) hP hD hS () trivial (by rfl) [0, 1, 2, 3, 4, 5] (by decide) (by rfl) (Nat.le_of_ble_eq_true rfl) (Nat.le_of_ble_eq_true rfl) dX5_areSound_44
  | succ n ih =>
    intro i hi H locs hP hD hS ls hl
    refine lv_iload_n hx hb dX5_areSound_2 rfl (lv_at hl 2 rfl) ?_
    refine lv_aload_n hx hb dX5_areSound_3 rfl (lv_at hl 0 rfl) ?_
    refine va_get (D := gD G) (ci := 8) (v := .int (nI tc)) (C := RX5) (T := TX5) (N := 3) hx hb hts (by decide +kernel) hown hK hP 0 rfl rfl 1 (by decide) (hts (.fieldLink RX5 15 "Degreewall$Tables" "count" "I") (by decide +kernel)) (fun _ h9 => h9) rfl dX5_areSound_4 ?_
    refine gN_ge (tgt := 43) hx hb dX5_areSound_7 (by decide) (by omega) (by omega) (fun c3 => absurd c3 (by omega)) (fun c3 => ?_)
    refine lv_aload_n hx hb dX5_areSound_10 rfl (lv_at hl 0 rfl) ?_
    refine va_get (D := gD G) (ci := 8) (v := .int (nI sk)) (C := RX5) (T := TX5) (N := 3) hx hb hts (by decide +kernel) hown hK hP 0 rfl rfl 2 (by decide) (hts (.fieldLink RX5 19 "Degreewall$Tables" "struck" "I") (by decide +kernel)) (fun _ h9 => h9) rfl dX5_areSound_11 ?_
    refine lv_iload_n hx hb dX5_areSound_14 rfl (lv_at hl 2 rfl) ?_
    refine gCSN (As := [.int (nI sk), .int (nI i)]) (rest := []) (wr := [(h, .inr (8, [.ref ql, .int (nI tc), .int (nI sk)])), (ql, .inl (G.2.2.1 0, 10, .inl (nA L))), (hk, .inr (3, [.ref hl0, .ref qb, .int (nI cnt), .int (nI br)])), (hl0, .inr (4, [.ref qn])), (qn, .inl (G.2.2.1 0, 7, .inl (nA f))), (qb, .inl (G.2.2.1 0, 7, .inl (nA g)))]) hE (c_contains l G sk i (by omega) (by omega)) ⟨va_cnB 2 hts ggX5_areSound_X6_contains rfl rfl rfl (hE.nest 13 rfl) (hts (.initialized RX6) (by decide +kernel)) (by decide +kernel) ⟨Nat.le_of_ble_eq_true rfl, Nat.le_of_ble_eq_true rfl⟩, (hts (.static yX6_contains) (by decide +kernel)), trivial⟩ ⟨hx, hb, hml, hown, hts⟩ hK hP hD hS hA [] [0, 1, 2, 3, 4, 5] rfl rfl (by decide) (by decide) (by decide) rfl hl rfl (Nat.le_of_ble_eq_true rfl) dX5_areSound_15 ⟨Nat.le_of_ble_eq_true rfl, Nat.le_of_ble_eq_true rfl⟩ (fun u9 H locs hu hP hD hS => ?_)
    have hP : va_P (gD G) vwCl [(h, .inr (8, [.ref ql, .int (nI tc), .int (nI sk)])), (ql, .inl (G.2.2.1 0, 10, .inl (nA L))), (hk, .inr (3, [.ref hl0, .ref qb, .int (nI cnt), .int (nI br)])), (hl0, .inr (4, [.ref qn])), (qn, .inl (G.2.2.1 0, 7, .inl (nA f))), (qb, .inl (G.2.2.1 0, 7, .inl (nA g)))] H := hP
    have hD : va_D A [(h, .inr (8, [.ref ql, .int (nI tc), .int (nI sk)])), (ql, .inl (G.2.2.1 0, 10, .inl (nA L))), (hk, .inr (3, [.ref hl0, .ref qb, .int (nI cnt), .int (nI br)])), (hl0, .inr (4, [.ref qn])), (qn, .inl (G.2.2.1 0, 7, .inl (nA f))), (qb, .inl (G.2.2.1 0, 7, .inl (nA g)))] := hD
    refine W.eq (g2 := F0 m9 18 ls [.int (nI ((sk.testBit i).toNat))]) rfl ?_
    have hb1 : (sk.testBit i).toNat < 2 ^ 31 := Nat.lt_of_le_of_lt (Bool.toNat_le _) (by decide)
    refine gN_ne0 (tgt := 37) hx hb dX5_areSound_18 (by decide) (by omega) (fun c4 => ?_) (fun c4 => ?_)
    · refine lv_iinc (lv' := [(2, .int (nI (i + 1))), (0, .ref h), (1, .ref hk)]) hx hb dX5_areSound_37 hl (k := 2) rfl (n_inc _) (by decide) rfl (fun ls hl => ?_)
      refine lv_goto (tgt := 2) hx hb dX5_areSound_40 (by decide) ?_
      exact ih (i + 1)  (by omega)  _ _ (hP.sub [0, 1, 2, 3, 4, 5] rfl) (hD.sub [0, 1, 2, 3, 4, 5] (by decide) rfl) hS _ (lv_sub hl [1, 2, 0] rfl)
    · refine lv_aload_n hx hb dX5_areSound_21 rfl (lv_at hl 1 rfl) ?_
      refine lv_aload_n hx hb dX5_areSound_22 rfl (lv_at hl 0 rfl) ?_
      refine va_get (D := gD G) (ci := 8) (v := .ref ql) (C := RX5) (T := TX5) (N := 3) hx hb hts (by decide +kernel) hown hK hP 0 rfl rfl 0 (by decide) (hts (.fieldLink RX5 9 "Degreewall$Tables" "lines" "[I") (by decide +kernel)) (fun _ h9 => h9) rfl dX5_areSound_23 ?_
      refine lv_iload_n hx hb dX5_areSound_26 rfl (lv_at hl 2 rfl) ?_
      refine gN_iald hx hb hK hP 1 0 rfl rfl (by omega) (by decide) dX5_areSound_27 ?_
      refine gCV (ci := 3) (q0 := 0) (C := RX0) (As := [.int (nI (L i))]) (rest := []) (wr := [(h, .inr (8, [.ref ql, .int (nI tc), .int (nI sk)])), (ql, .inl (G.2.2.1 0, 10, .inl (nA L)))]) hE (c_Kin_firstPairWithin l G hk hl0 qn qb f g cnt br (L i) hg7 (by omega) (hL i (by omega))) (cwV 1 hts gX5_areSound_X0_firstPairWithin rfl rfl rfl (by decide +kernel) ⟨Nat.le_of_ble_eq_true rfl, Nat.le_of_ble_eq_true rfl⟩) ⟨hx, hb, hml, hown, hts⟩ hK hP hD hS hA [2, 3, 4, 5] [0, 1] rfl rfl (by decide) (by decide) (by decide) rfl rfl rfl hl rfl (Nat.le_of_ble_eq_true rfl) dX5_areSound_28 ⟨Nat.le_of_ble_eq_true rfl, Nat.le_of_ble_eq_true rfl⟩ (fun r5 H locs hu hP hD hS => ?_)
      have hr5 : pairR g (L i) cnt r5 := hu
      have hP : va_P (gD G) vwCl [(h, .inr (8, [.ref ql, .int (nI tc), .int (nI sk)])), (ql, .inl (G.2.2.1 0, 10, .inl (nA L))), (hk, .inr (3, [.ref hl0, .ref qb, .int (nI cnt), .int (nI br)])), (hl0, .inr (4, [.ref qn])), (qn, .inl (G.2.2.1 0, 7, .inl (nA f))), (qb, .inl (G.2.2.1 0, 7, .inl (nA g)))] H := hP
      have hD : va_D A [(h, .inr (8, [.ref ql, .int (nI tc), .int (nI sk)])), (ql, .inl (G.2.2.1 0, 10, .inl (nA L))), (hk, .inr (3, [.ref hl0, .ref qb, .int (nI cnt), .int (nI br)])), (hl0, .inr (4, [.ref qn])), (qn, .inl (G.2.2.1 0, 7, .inl (nA f))), (qb, .inl (G.2.2.1 0, 7, .inl (nA g)))] := hD
      refine W.eq (g2 := F0 m9 31 ls [.int r5]) rfl ?_
      refine lv_iconst (v := (-1)) hx hb dX5_areSound_31 (by decide) ?_
      refine lv_icmp_eq (tgt := 37) hx hb dX5_areSound_32 (by decide) (fun c6 => ?_) (fun c6 => ?_)
      · refine lv_iinc (lv' := [(2, .int (nI (i + 1))), (0, .ref h), (1, .ref hk)]) hx hb dX5_areSound_37 hl (k := 2) rfl (n_inc _) (by decide) rfl (fun ls hl => ?_)
        refine lv_goto (tgt := 2) hx hb dX5_areSound_40 (by decide) ?_
        exact ih (i + 1)  (by omega)  _ _ (hP.sub [0, 1, 2, 3, 4, 5] rfl) (hD.sub [0, 1, 2, 3, 4, 5] (by decide) rfl) hS _ (lv_sub hl [1, 2, 0] rfl)
      · exact absurd (pairR_yes hr5 c6) (hok i (by omega) (tb_f c4))
