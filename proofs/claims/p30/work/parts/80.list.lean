def rm_c_AC_init : Room := { frames := 1, cells := 0, slots := 0, locals := 12 }
set_option maxHeartbeats 4000000 in
set_option maxRecDepth 100000 in
/-- c_AC_init -/
theorem c_AC_init (l : Launch) (G : gG) (h : Nat) (x : Value) (y : Value) (z : Value)  : gMet (S := Unit) l G yJxa1e45_init_da8c8 wsJxa1e45_init_da8c8 rm_c_AC_init [.ref h] [(h, .inr (2, [x, y, z]))] (fun _ => True) (fun _ => none) (fun _ => [(h, .inr (2, [x, y, z]))]) := by
  refine gOf (maxL := 1) (ret := none) (cc := cJxa1e45_init_da8c8) (by decide) rfl (Nat.le_of_ble_eq_true rfl) ?_
  intro P9 e9 s m9 args below meth c9 A ls H locs Q hQ hx hb hml hr hown hts hlocks hin hK hP hD hS hA hE hl
  have hown : s.vm.findClass RJxa1e45 = some m9.cls := hown
  have hl : lv_has ls 1 [(0, .ref h)] := hl
  refine lv_aload_n hx hb dJxa1e45_init_da8c8_0 rfl (lv_at hl 0 rfl) ?_
  refine W.objInit hx hb hown (hts (.methodLink RJxa1e45 1 objectInit) (by decide +kernel)) (hts (.instanceMethod objectInit) (by decide +kernel)) (hts _ (by decide +kernel)) rfl (by rw [hml]; exact hl.1) rfl dJxa1e45_init_da8c8_1 (Nat.le_of_ble_eq_true rfl) (Nat.le_of_ble_eq_true rfl) ?_
  refine W.eq (g2 := F0 m9 4 ls []) rfl ?_
  exact gVret (hQ := hQ) hx hb hr hlocks hP hD hS () trivial (by rfl) [0] (by decide) (by rfl) (Nat.le_of_ble_eq_true rfl) (Nat.le_of_ble_eq_true rfl) dJxa1e45_init_da8c8_4

def rm_c_AL_init : Room := { frames := 2, cells := 0, slots := 0, locals := 32 }
set_option maxHeartbeats 4000000 in
set_option maxRecDepth 100000 in
/-- c_AL_init -/
theorem c_AL_init (l : Launch) (G : gG) (h : Nat) (x : Value) (y : Value) (z : Value)  : gMet (S := Unit) l G yJxc12de_init_da8c8 wsJxc12de_init_da8c8 rm_c_AL_init [.ref h] [(h, .inr (2, [x, y, z]))] (fun _ => True) (fun _ => none) (fun _ => [(h, .inr (2, [.int (nI 0), y, z]))]) := by
  refine gOf (maxL := 1) (ret := none) (cc := cJxc12de_init_da8c8) (by decide) rfl (Nat.le_of_ble_eq_true rfl) ?_
  intro P9 e9 s m9 args below meth c9 A ls H locs Q hQ hx hb hml hr hown hts hlocks hin hK hP hD hS hA hE hl
  have hown : s.vm.findClass RJxc12de = some m9.cls := hown
  have hl : lv_has ls 1 [(0, .ref h)] := hl
  refine lv_aload_n hx hb dJxc12de_init_da8c8_0 rfl (lv_at hl 0 rfl) ?_
  refine gCI (As := []) (rest := []) (wr := []) hE (c_AC_init l G h (x) (y) (z)) (cwI 0 hts ggJxc12de_init_da8c8_Jxa1e45_init_da8c8 rfl rfl rfl (hts (.initialized RJxa1e45) (by decide +kernel)) (hts (.methodLink RJxc12de 1 yJxa1e45_init_da8c8) (by decide +kernel)) (hts (.instanceMethod yJxa1e45_init_da8c8) (by decide +kernel)) rfl (by decide +kernel) ⟨Nat.le_of_ble_eq_true rfl, Nat.le_of_ble_eq_true rfl⟩) ⟨hx, hb, hml, hown, hts⟩ hK hP hD hS hA [0] [] rfl rfl (by decide) (by decide) (by decide) rfl hl rfl (Nat.le_of_ble_eq_true rfl) dJxc12de_init_da8c8_1 ⟨Nat.le_of_ble_eq_true rfl, Nat.le_of_ble_eq_true rfl⟩ (fun u9 H locs hu hP hD hS => ?_)
  have hP : va_P (gD G) vwCl [(h, .inr (2, [x, y, z]))] H := hP
  have hD : va_D A [(h, .inr (2, [x, y, z]))] := hD
  refine W.eq (g2 := F0 m9 4 ls []) rfl ?_
  refine lv_aload_n hx hb dJxc12de_init_da8c8_4 rfl (lv_at hl 0 rfl) ?_
  refine lv_iconst (v := nI 0) hx hb dJxc12de_init_da8c8_5 (by decide) ?_
  refine va_put (D := gD G) (ci := 2) (v := .int (nI 0)) (ty := .int) (C := RJx4a65c) (T := TJx4a65c) (N := 3) hx hb hts (by decide +kernel) tyJx4a65c tyJx4a65c_ok nmJx4a65c hown hK hP hD hS 0 rfl rfl 0 (by decide) (hts (.fieldLink RJxc12de 7 "java/util/AbstractList" "modCount" "I") (by decide +kernel)) (fun _ h9 => h9) rfl (by decide +kernel) rfl rfl (Nat.le_of_ble_eq_true rfl) dJxc12de_init_da8c8_6 (fun H locs hP hD hS => ?_)
  have hP : va_P (gD G) vwCl [(h, .inr (2, [.int (nI 0), y, z]))] H := hP
  have hD : va_D A [(h, .inr (2, [.int (nI 0), y, z]))] := hD
  exact gVret (hQ := hQ) hx hb hr hlocks hP hD hS () trivial (by rfl) [0] (by decide) (by rfl) (Nat.le_of_ble_eq_true rfl) (Nat.le_of_ble_eq_true rfl) dJxc12de_init_da8c8_9

def rm_c_L_init : Room := { frames := 3, cells := 0, slots := 0, locals := 52 }
set_option maxHeartbeats 4000000 in
set_option maxRecDepth 100000 in
/-- ArrayList() -/
theorem c_L_init (l : Launch) (G : gG) (h : Nat)  : gMet (S := Unit) l G yJx4a65c_init_da8c8 wsJx4a65c_init_da8c8 rm_c_L_init [.ref h] [(h, .inr (2, [.int (nI 0), .null, .int (nI 0)]))] (fun _ => True) (fun _ => none) (fun _ => [(h, .inr (2, [.int (nI 0), .ref (G.2.2.2 0), .int (nI 0)]))]) := by
  refine gOf (maxL := 1) (ret := none) (cc := cJx4a65c_init_da8c8) (by decide) rfl (Nat.le_of_ble_eq_true rfl) ?_
  intro P9 e9 s m9 args below meth c9 A ls H locs Q hQ hx hb hml hr hown hts hlocks hin hK hP hD hS hA hE hl
  have hown : s.vm.findClass RJx4a65c = some m9.cls := hown
  have hl : lv_has ls 1 [(0, .ref h)] := hl
  refine lv_aload_n hx hb dJx4a65c_init_da8c8_0 rfl (lv_at hl 0 rfl) ?_
  refine gCI (As := []) (rest := []) (wr := []) hE (c_AL_init l G h (.int (nI 0)) (.null) (.int (nI 0))) (cwI 0 hts ggJx4a65c_init_da8c8_Jxc12de_init_da8c8 rfl rfl rfl (hts (.initialized RJxc12de) (by decide +kernel)) (hts (.methodLink RJx4a65c 1 yJxc12de_init_da8c8) (by decide +kernel)) (hts (.instanceMethod yJxc12de_init_da8c8) (by decide +kernel)) rfl (by decide +kernel) ⟨Nat.le_of_ble_eq_true rfl, Nat.le_of_ble_eq_true rfl⟩) ⟨hx, hb, hml, hown, hts⟩ hK hP hD hS hA [0] [] rfl rfl (by decide) (by decide) (by decide) rfl hl rfl (Nat.le_of_ble_eq_true rfl) dJx4a65c_init_da8c8_1 ⟨Nat.le_of_ble_eq_true rfl, Nat.le_of_ble_eq_true rfl⟩ (fun u9 H locs hu hP hD hS => ?_)
  have hP : va_P (gD G) vwCl [(h, .inr (2, [.int (nI 0), .null, .int (nI 0)]))] H := hP
  have hD : va_D A [(h, .inr (2, [.int (nI 0), .null, .int (nI 0)]))] := hD
  refine W.eq (g2 := F0 m9 4 ls []) rfl ?_
  refine lv_aload_n hx hb dJx4a65c_init_da8c8_4 rfl (lv_at hl 0 rfl) ?_
  refine va_gets (v := .ref (G.2.2.2 0)) hx hb hE.2.2.2.1.1 hS hown (hts (.fieldLink RJx4a65c 39 "java/util/ArrayList" "DEFAULTCAPACITY_EMPTY_ELEMENTDATA" "[Ljava/lang/Object;") (by decide +kernel)) (fun _ h9 => h9) dJx4a65c_init_da8c8_5 ?_
  refine va_put (D := gD G) (ci := 2) (v := .ref (G.2.2.2 0)) (ty := (tyJx4a65c 1)) (C := RJx4a65c) (T := TJx4a65c) (N := 3) hx hb hts (by decide +kernel) tyJx4a65c tyJx4a65c_ok nmJx4a65c hown hK hP hD hS 0 rfl rfl 1 (by decide) (hts (.fieldLink RJx4a65c 9 "java/util/ArrayList" "elementData" "[Ljava/lang/Object;") (by decide +kernel)) (fun _ h9 => h9) rfl (by decide +kernel) rfl rfl (Nat.le_of_ble_eq_true rfl) dJx4a65c_init_da8c8_8 (fun H locs hP hD hS => ?_)
  have hP : va_P (gD G) vwCl [(h, .inr (2, [.int (nI 0), .ref (G.2.2.2 0), .int (nI 0)]))] H := hP
  have hD : va_D A [(h, .inr (2, [.int (nI 0), .ref (G.2.2.2 0), .int (nI 0)]))] := hD
  exact gVret (hQ := hQ) hx hb hr hlocks hP hD hS () trivial (by rfl) [0] (by decide) (by rfl) (Nat.le_of_ble_eq_true rfl) (Nat.le_of_ble_eq_true rfl) dJx4a65c_init_da8c8_11

def rm_c_newLength : Room := { frames := 1, cells := 0, slots := 0, locals := 14 }
set_option maxHeartbeats 4000000 in
set_option maxRecDepth 100000 in
/-- newLength -/
theorem c_newLength (l : Launch) (G : gG) (a : Nat) (b : Nat) (d : Nat) (ha : 1 ≤ a) (ha1 : a < 10000) (hb1 : b < 10000) (hd1 : d < 10000) : gMet (S := Unit) l G yJ8_newLength_cabcc wsJ8_newLength_cabcc rm_c_newLength [.int (nI a), .int (nI b), .int (nI d)] [] (fun _ => True) (fun _ => some (.int (nI (a + max b d)))) (fun _ => []) := by
  refine gOf (maxL := 4) (ret := (some .int)) (cc := cJ8_newLength_cabcc) (by decide) rfl (Nat.le_of_ble_eq_true rfl) ?_
  intro P9 e9 s m9 args below meth c9 A ls H locs Q hQ hx hb hml hr hown hts hlocks hin hK hP hD hS hA hE hl
  have hown : s.vm.findClass RJ8 = some m9.cls := hown
  have hl : lv_has ls 4 [(0, .int (nI a)), (1, .int (nI b)), (2, .int (nI d))] := hl
  refine lv_iload_n hx hb dJ8_newLength_cabcc_0 rfl (lv_at hl 0 rfl) ?_
  refine lv_iload_n hx hb dJ8_newLength_cabcc_1 rfl (lv_at hl 1 rfl) ?_
  refine lv_iload_n hx hb dJ8_newLength_cabcc_2 rfl (lv_at hl 2 rfl) ?_
  refine va_mmax hx hb (hml.trans hl.1.symm) hown (hts (.methodLink RJ8 194 Lib.Math.max.name) (by decide +kernel)) (hts (.static Lib.Math.max.name) (by decide +kernel)) (hts (.initialized "java/lang/Math") (by decide +kernel)) (hts (.code Lib.Math.max.name Lib.Math.max.code 2 (some .int)) (by decide +kernel)) (Nat.le_of_ble_eq_true rfl) (Nat.le_of_ble_eq_true rfl) (Nat.le_of_ble_eq_true rfl) (Nat.le_of_ble_eq_true rfl) dJ8_newLength_cabcc_3 ?_
  refine gTop (y := (nI (max b d))) (n_max (by omega) (by omega)) ?_
  have hmx : max b d < 10000 := Nat.max_lt.mpr ⟨hb1, hd1⟩
  refine lv_iadd hx hb dJ8_newLength_cabcc_6 ?_
  refine gTop (y := (nI (a + max b d))) (nI_add _ _) ?_
  refine lv_istore_n (lv' := [(3, .int (nI (a + max b d))), (0, .int (nI a)), (1, .int (nI b)), (2, .int (nI d))]) hx hb dJ8_newLength_cabcc_7 rfl hl (by decide) rfl (fun ls hl => ?_)
  refine lv_iconst (v := nI 0) hx hb dJ8_newLength_cabcc_8 (by decide) ?_
  refine lv_iload_n hx hb dJ8_newLength_cabcc_9 rfl (lv_at hl 0 rfl) ?_
  refine gN_ge (tgt := 21) hx hb dJ8_newLength_cabcc_10 (by decide) (by decide) (by omega) (fun c1 => absurd c1 (by omega)) (fun c1 => ?_)
  refine lv_iload_n hx hb dJ8_newLength_cabcc_13 rfl (lv_at hl 0 rfl) ?_
  refine lv_ldc (v := 2147483639) hx hb hown (hts (.constant RJ8 200 2147483639) (by decide +kernel)) dJ8_newLength_cabcc_14 ?_
  refine gTop (y := nI 2147483639) rfl ?_
  refine gN_gt (tgt := 21) hx hb dJ8_newLength_cabcc_16 (by decide) (by omega) (by decide) (fun c2 => absurd c2 (by omega)) (fun c2 => ?_)
  refine lv_iload_n hx hb dJ8_newLength_cabcc_19 rfl (lv_at hl 0 rfl) ?_
  exact gIret (hQ := hQ) hx hb hr hlocks hP hD hS () trivial (by rfl) [] (by decide) (by rfl) (Nat.le_of_ble_eq_true rfl) (Nat.le_of_ble_eq_true rfl) dJ8_newLength_cabcc_20

def rm_c_copyOf3 : Room := { frames := 1, cells := 1, slots := 300, locals := 40 }
set_option maxHeartbeats 4000000 in
set_option maxRecDepth 100000 in
/-- c_copyOf3 -/
theorem c_copyOf3 (l : Launch) (G : gG) (q : Nat) (n : Nat) (f : Nat → Option Nat) (k : Nat) (Z : va_W) (El : Nat → Prop) (hZ : gEl G Z El) (hn : n < 1000) (hk1 : k < 300) (hnk : n ≤ k) (hf : ∀ i, i < n → ∀ y, f i = some y → El y) : gMet (S := Nat) l G yJ7_copyOf_6403c wsJ7_copyOf_6403c rm_c_copyOf3 [.ref q, .int (nI k), .ref (G.2.2.2 2)] ([(q, .inl (G.2.2.1 4, n, .inr (.inr (.inr (.inr f)))))] ++ Z) (fun _ => True) (fun q2 => some (.ref q2)) (fun q2 => ([(q, .inl (G.2.2.1 4, n, .inr (.inr (.inr (.inr f))))), (q2, .inl (G.2.2.1 4, k, .inr (.inr (.inr (.inr (va_cpy f (fun _ => none) 0 0 n))))))] ++ Z)) := by
  refine gOf (maxL := 4) (ret := (some (.array (.object "java/lang/Object")))) (cc := cJ7_copyOf_6403c) (by decide) rfl (Nat.le_of_ble_eq_true rfl) ?_
  intro P9 e9 s m9 args below meth c9 A ls H locs Q hQ hx hb hml hr hown hts hlocks hin hK hP hD hS hA hE hl
  have hown : s.vm.findClass RJ7 = some m9.cls := hown
  have hl : lv_has ls 4 [(0, .ref q), (1, .int (nI k)), (2, .ref (G.2.2.2 2))] := hl
  refine lv_aload_n hx hb dJ7_copyOf_6403c_0 rfl (lv_at hl 2 rfl) ?_
  refine va_ldcM hx hb hown (hts (.classLink RJ7 110 "[Ljava/lang/Object;") (by decide +kernel)) hE.2.1.2.1 dJ7_copyOf_6403c_1 ?_
  refine lv_acmp_ne (tgt := 13) (rx := some (G.2.2.2 2)) (ry := some (G.2.2.2 2)) hx hb dJ7_copyOf_6403c_3 (by decide) (fun h9 => absurd rfl h9) (fun _ => ?_)
  refine lv_iload_n hx hb dJ7_copyOf_6403c_6 rfl (lv_at hl 1 rfl) ?_
  refine gQ_newo (n := k) hx hb hown hE (hts (.classLink RJ7 2 "java/lang/Object") (by decide +kernel)) hK hP hD hS hA (by omega) (Nat.le_of_ble_eq_true rfl) (Nat.le_trans (by show _ ≤ 300; omega) (Nat.le_of_ble_eq_true rfl)) dJ7_copyOf_6403c_7 (fun q1 H hP hD hS => ?_)
  have hP := va_P.swap hP
  have hD := va_D.swap hD
  have hP : va_P (gD G) vwCl ([(q, .inl (G.2.2.1 4, n, .inr (.inr (.inr (.inr f))))), (q1, .inl (G.2.2.1 4, k, .inr (.inr (.inr (.inr (fun _ => none))))))] ++ Z) H := hP
  have hD : va_D A ([(q, .inl (G.2.2.1 4, n, .inr (.inr (.inr (.inr f))))), (q1, .inl (G.2.2.1 4, k, .inr (.inr (.inr (.inr (fun _ => none))))))] ++ Z) := hD
  refine W.widen (k := 1) (n := 300) (Nat.le_of_ble_eq_true rfl) (by omega) ?_
  refine lv_goto (tgt := 24) hx hb dJ7_copyOf_6403c_10 (by decide) ?_
  refine lv_astore_n (lv' := [(3, .ref q1), (0, .ref q), (1, .int (nI k)), (2, .ref (G.2.2.2 2))]) hx hb dJ7_copyOf_6403c_24 rfl hl (by decide) rfl (fun ls hl => ?_)
  refine lv_aload_n hx hb dJ7_copyOf_6403c_25 rfl (lv_at hl 1 rfl) ?_
  refine lv_iconst (v := nI 0) hx hb dJ7_copyOf_6403c_26 (by decide) ?_
  refine lv_aload_n hx hb dJ7_copyOf_6403c_27 rfl (lv_at hl 0 rfl) ?_
  refine lv_iconst (v := nI 0) hx hb dJ7_copyOf_6403c_28 (by decide) ?_
  refine lv_aload_n hx hb dJ7_copyOf_6403c_29 rfl (lv_at hl 1 rfl) ?_
  refine va_alen (v := nI n) hx hb hK hP 0 4 rfl rfl rfl dJ7_copyOf_6403c_30 ?_
  refine lv_iload_n hx hb dJ7_copyOf_6403c_31 rfl (lv_at hl 2 rfl) ?_
  refine va_mmin hx hb (hml.trans hl.1.symm) hown (hts (.methodLink RJ7 304 Lib.Math.min.name) (by decide +kernel)) (hts (.static Lib.Math.min.name) (by decide +kernel)) (hts (.initialized "java/lang/Math") (by decide +kernel)) (hts (.code Lib.Math.min.name Lib.Math.min.code 2 (some .int)) (by decide +kernel)) (Nat.le_of_ble_eq_true rfl) (Nat.le_of_ble_eq_true rfl) (Nat.le_of_ble_eq_true rfl) (Nat.le_of_ble_eq_true rfl) dJ7_copyOf_6403c_32 ?_
  refine gTop (y := (nI (min n k))) (n_min (by omega) (by omega)) ?_
  have hmn : min n k = n := Nat.min_eq_left hnk
  rw [hmn]
  refine gQ_copy (k := n) hx hb (hml.trans hl.1.symm) hown (hts (.methodLink RJ7 150 arraycopyName) (by decide +kernel)) (hts (.native arraycopyName) (by decide +kernel)) (hts (.static arraycopyName) (by decide +kernel)) (hts (.initialized "java/lang/System") (by decide +kernel)) hK hP hD hS 0 1 rfl rfl (by omega) (by omega) (by omega) (fun i hi y hy => hZ s A H locs hE hK hS (gtail hP) y (hf i hi y hy)) (Nat.le_of_ble_eq_true rfl) (Nat.le_of_ble_eq_true rfl) dJ7_copyOf_6403c_35 (fun H locs hP hD hS => ?_)
  have hP : va_P (gD G) vwCl ([(q, .inl (G.2.2.1 4, n, .inr (.inr (.inr (.inr f))))), (q1, .inl (G.2.2.1 4, k, .inr (.inr (.inr (.inr (va_cpy f (fun _ => none) 0 0 n))))))] ++ Z) H := hP
  have hD : va_D A ([(q, .inl (G.2.2.1 4, n, .inr (.inr (.inr (.inr f))))), (q1, .inl (G.2.2.1 4, k, .inr (.inr (.inr (.inr (va_cpy f (fun _ => none) 0 0 n))))))] ++ Z) := hD
  refine lv_aload_n hx hb dJ7_copyOf_6403c_38 rfl (lv_at hl 0 rfl) ?_
  exact gAretT (hQ := hQ) hx hb hr (by first | exact Or.inl ⟨_, rfl⟩ | exact Or.inr ⟨_, rfl⟩) hlocks hS q1 trivial (by rfl) (gtP hP [0, 1] rfl) (gtD hD [0, 1] (by decide) rfl) (Nat.le_of_ble_eq_true rfl) (Nat.le_of_ble_eq_true rfl) dJ7_copyOf_6403c_39

def rm_c_copyOf : Room := { frames := 2, cells := 1, slots := 300, locals := 63 }
set_option maxHeartbeats 4000000 in
set_option maxRecDepth 100000 in
/-- c_copyOf -/
theorem c_copyOf (l : Launch) (G : gG) (q : Nat) (n : Nat) (f : Nat → Option Nat) (k : Nat) (Z : va_W) (El : Nat → Prop) (hZ : gEl G Z El) (hn : n < 1000) (hk1 : k < 300) (hnk : n ≤ k) (hf : ∀ i, i < n → ∀ y, f i = some y → El y) : gMet (S := Nat) l G yJ7_copyOf_1904c wsJ7_copyOf_1904c rm_c_copyOf [.ref q, .int (nI k)] ([(q, .inl (G.2.2.1 4, n, .inr (.inr (.inr (.inr f)))))] ++ Z) (fun _ => True) (fun q2 => some (.ref q2)) (fun q2 => ([(q, .inl (G.2.2.1 4, n, .inr (.inr (.inr (.inr f))))), (q2, .inl (G.2.2.1 4, k, .inr (.inr (.inr (.inr (va_cpy f (fun _ => none) 0 0 n))))))] ++ Z)) := by
  refine gOf (maxL := 2) (ret := (some (.array (.object "java/lang/Object")))) (cc := cJ7_copyOf_1904c) (by decide) rfl (Nat.le_of_ble_eq_true rfl) ?_
  intro P9 e9 s m9 args below meth c9 A ls H locs Q hQ hx hb hml hr hown hts hlocks hin hK hP hD hS hA hE hl
  have hown : s.vm.findClass RJ7 = some m9.cls := hown
  have hl : lv_has ls 2 [(0, .ref q), (1, .int (nI k))] := hl
  refine lv_aload_n hx hb dJ7_copyOf_1904c_0 rfl (lv_at hl 0 rfl) ?_
  refine lv_iload_n hx hb dJ7_copyOf_1904c_1 rfl (lv_at hl 1 rfl) ?_
  refine lv_aload_n hx hb dJ7_copyOf_1904c_2 rfl (lv_at hl 0 rfl) ?_
  refine va_getC (C := "[Ljava/lang/Object;") hx hb (hml.trans hl.1.symm) hown (hts (.methodLink RJ7 86 ⟨"java/lang/Object", "getClass", "()Ljava/lang/Class;"⟩) (by decide +kernel)) hE.2.1.2.2.use (hts (.selects "[Ljava/lang/Object;" ⟨"java/lang/Object", "getClass", "()Ljava/lang/Class;"⟩ ⟨"java/lang/Object", "getClass", "()Ljava/lang/Class;"⟩) (by decide +kernel)) (hts (.instanceMethod ⟨"java/lang/Object", "getClass", "()Ljava/lang/Class;"⟩) (by decide +kernel)) (hts (.native ⟨"java/lang/Object", "getClass", "()Ljava/lang/Class;"⟩) (by decide +kernel)) hE.2.1.2.1 (gO_recv hK hP 0 rfl) (Nat.le_of_ble_eq_true rfl) (Nat.le_of_ble_eq_true rfl) dJ7_copyOf_1904c_3 ?_
  refine gCSJ (As := [.ref q, .int (nI k), .ref (G.2.2.2 2)]) (rest := []) hE (c_copyOf3 l G q n f k Z El hZ (by omega) (by omega) (by omega) hf) (va_cwS 3 hts gJ7_copyOf_1904c_J7_copyOf_6403c rfl rfl rfl (by decide +kernel) ⟨Nat.le_of_ble_eq_true rfl, Nat.le_of_ble_eq_true rfl⟩) ⟨hx, hb, hml, hown, hts⟩ hK hP hD hS hA (gJnP (wr := []) [0] [] rfl rfl (by decide) (by decide) (by decide)) rfl hl rfl (Nat.le_of_ble_eq_true rfl) dJ7_copyOf_1904c_6 ⟨Nat.le_of_ble_eq_true rfl, Nat.le_of_ble_eq_true rfl⟩ (fun q1 H locs hu hP hD hS => ?_)
  have hP : va_P (gD G) vwCl ([(q, .inl (G.2.2.1 4, n, .inr (.inr (.inr (.inr f))))), (q1, .inl (G.2.2.1 4, k, .inr (.inr (.inr (.inr (va_cpy f (fun _ => none) 0 0 n))))))] ++ Z) H := hP
  have hD : va_D A ([(q, .inl (G.2.2.1 4, n, .inr (.inr (.inr (.inr f))))), (q1, .inl (G.2.2.1 4, k, .inr (.inr (.inr (.inr (va_cpy f (fun _ => none) 0 0 n))))))] ++ Z) := hD
  refine W.widen (k := 1) (n := 300) (Nat.le_of_ble_eq_true rfl) (Nat.le_of_ble_eq_true rfl) ?_
  refine W.eq (g2 := F0 m9 9 ls [.ref q1]) rfl ?_
  exact gAretT (hQ := hQ) hx hb hr (by first | exact Or.inl ⟨_, rfl⟩ | exact Or.inr ⟨_, rfl⟩) hlocks hS q1 trivial (by rfl) (gtP hP [0, 1] rfl) (gtD hD [0, 1] (by decide) rfl) (Nat.le_of_ble_eq_true rfl) (Nat.le_of_ble_eq_true rfl) dJ7_copyOf_1904c_9

def rm_c_grow1_0 : Room := { frames := 1, cells := 1, slots := 10, locals := 14 }
set_option maxHeartbeats 4000000 in
set_option maxRecDepth 100000 in
/-- grow(1) of an empty list -/
theorem c_grow1_0 (l : Launch) (G : gG) (h : Nat) (mo : Nat)  : gMet (S := Nat) l G yJx4a65c_grow_92f84 wsJx4a65c_grow_92f84 rm_c_grow1_0 [.ref h, .int (nI 1)] [(h, .inr (2, [.int (nI mo), .ref (G.2.2.2 0), .int (nI 0)]))] (fun _ => True) (fun q => some (.ref q)) (fun q => [(h, .inr (2, [.int (nI mo), .ref q, .int (nI 0)])), (q, .inl (G.2.2.1 4, 10, .inr (.inr (.inr (.inr (fun _ => none))))))]) := by
  refine gOf (maxL := 4) (ret := (some (.array (.object "java/lang/Object")))) (cc := cJx4a65c_grow_92f84) (by decide) rfl (Nat.le_of_ble_eq_true rfl) ?_
  intro P9 e9 s m9 args below meth c9 A ls H locs Q hQ hx hb hml hr hown hts hlocks hin hK hP hD hS hA hE hl
  have hown : s.vm.findClass RJx4a65c = some m9.cls := hown
  have hl : lv_has ls 4 [(0, .ref h), (1, .int (nI 1))] := hl
  refine lv_aload_n hx hb dJx4a65c_grow_92f84_0 rfl (lv_at hl 0 rfl) ?_
  refine va_get (D := gD G) (ci := 2) (v := .ref (G.2.2.2 0)) (C := RJx4a65c) (T := TJx4a65c) (N := 3) hx hb hts (by decide +kernel) hown hK hP 0 rfl rfl 1 (by decide) (hts (.fieldLink RJx4a65c 9 "java/util/ArrayList" "elementData" "[Ljava/lang/Object;") (by decide +kernel)) (fun _ h9 => h9) rfl dJx4a65c_grow_92f84_1 ?_
  refine va_tlen (v := nI 0) hx hb hE.2.2.2.2.1 hS rfl dJx4a65c_grow_92f84_4 ?_
  refine lv_istore_n (lv' := [(2, .int (nI 0)), (0, .ref h), (1, .int (nI 1))]) hx hb dJx4a65c_grow_92f84_5 rfl hl (by decide) rfl (fun ls hl => ?_)
  refine lv_iload_n hx hb dJx4a65c_grow_92f84_6 rfl (lv_at hl 0 rfl) ?_
  refine lv_if_gt (tgt := 20) hx hb dJx4a65c_grow_92f84_7 (by decide) (fun h9 => absurd h9 (by decide)) (fun _ => ?_)
  refine lv_aload_n hx hb dJx4a65c_grow_92f84_10 rfl (lv_at hl 1 rfl) ?_
  refine va_get (D := gD G) (ci := 2) (v := .ref (G.2.2.2 0)) (C := RJx4a65c) (T := TJx4a65c) (N := 3) hx hb hts (by decide +kernel) hown hK hP 0 rfl rfl 1 (by decide) (hts (.fieldLink RJx4a65c 9 "java/util/ArrayList" "elementData" "[Ljava/lang/Object;") (by decide +kernel)) (fun _ h9 => h9) rfl dJx4a65c_grow_92f84_11 ?_
  refine va_gets (v := .ref (G.2.2.2 0)) hx hb hE.2.2.2.1.1 hS hown (hts (.fieldLink RJx4a65c 39 "java/util/ArrayList" "DEFAULTCAPACITY_EMPTY_ELEMENTDATA" "[Ljava/lang/Object;") (by decide +kernel)) (fun _ h9 => h9) dJx4a65c_grow_92f84_14 ?_
  refine lv_acmp_eq (tgt := 45) (rx := some (G.2.2.2 0)) (ry := some (G.2.2.2 0)) hx hb dJx4a65c_grow_92f84_17 (by decide) (fun _ => ?_) (fun h9 => absurd rfl h9)
  refine lv_aload_n hx hb dJx4a65c_grow_92f84_45 rfl (lv_at hl 1 rfl) ?_
  refine lv_bipush (v := nI 10) hx hb dJx4a65c_grow_92f84_46 (by decide) ?_
  refine lv_iload_n hx hb dJx4a65c_grow_92f84_48 rfl (lv_at hl 2 rfl) ?_
  refine va_mmax hx hb (hml.trans hl.1.symm) hown (hts (.methodLink RJx4a65c 79 Lib.Math.max.name) (by decide +kernel)) (hts (.static Lib.Math.max.name) (by decide +kernel)) (hts (.initialized "java/lang/Math") (by decide +kernel)) (hts (.code Lib.Math.max.name Lib.Math.max.code 2 (some .int)) (by decide +kernel)) (Nat.le_of_ble_eq_true rfl) (Nat.le_of_ble_eq_true rfl) (Nat.le_of_ble_eq_true rfl) (Nat.le_of_ble_eq_true rfl) dJx4a65c_grow_92f84_49 ?_
  refine gTop (y := (nI (max 10 1))) (n_max (by omega) (by omega)) ?_
  refine gTop (y := nI 10) rfl ?_
  refine gQ_newo (n := 10) hx hb hown hE (hts (.classLink RJx4a65c 7 "java/lang/Object") (by decide +kernel)) hK hP hD hS hA (by omega) (Nat.le_of_ble_eq_true rfl) (Nat.le_of_ble_eq_true rfl) dJx4a65c_grow_92f84_52 (fun q1 H hP hD hS => ?_)
  have hP : va_P (gD G) vwCl [(h, .inr (2, [.int (nI mo), .ref (G.2.2.2 0), .int (nI 0)])), (q1, .inl (G.2.2.1 4, 10, .inr (.inr (.inr (.inr (fun _ => none))))))] H := hP
  have hD : va_D A [(h, .inr (2, [.int (nI mo), .ref (G.2.2.2 0), .int (nI 0)])), (q1, .inl (G.2.2.1 4, 10, .inr (.inr (.inr (.inr (fun _ => none))))))] := hD
  refine W.widen (k := 1) (n := 10) (Nat.le_of_ble_eq_true rfl) (Nat.le_of_ble_eq_true rfl) ?_
  refine lv_dup_x1 hx hb dJx4a65c_grow_92f84_55 rfl rfl ?_
  refine va_put (D := gD G) (ci := 2) (v := .ref q1) (ty := (tyJx4a65c 1)) (C := RJx4a65c) (T := TJx4a65c) (N := 3) hx hb hts (by decide +kernel) tyJx4a65c tyJx4a65c_ok nmJx4a65c hown hK hP hD hS 0 rfl rfl 1 (by decide) (hts (.fieldLink RJx4a65c 9 "java/util/ArrayList" "elementData" "[Ljava/lang/Object;") (by decide +kernel)) (fun _ h9 => h9) rfl (by decide +kernel) rfl rfl (Nat.le_of_ble_eq_true rfl) dJx4a65c_grow_92f84_56 (fun H locs hP hD hS => ?_)
  have hP : va_P (gD G) vwCl [(h, .inr (2, [.int (nI mo), .ref q1, .int (nI 0)])), (q1, .inl (G.2.2.1 4, 10, .inr (.inr (.inr (.inr (fun _ => none))))))] H := hP
  have hD : va_D A [(h, .inr (2, [.int (nI mo), .ref q1, .int (nI 0)])), (q1, .inl (G.2.2.1 4, 10, .inr (.inr (.inr (.inr (fun _ => none))))))] := hD
  exact gAret (hQ := hQ) hx hb hr (by first | exact Or.inl ⟨_, rfl⟩ | exact Or.inr ⟨_, rfl⟩) hlocks hP hD hS q1 trivial (by rfl) [0, 1] (by decide) (by rfl) (Nat.le_of_ble_eq_true rfl) (Nat.le_of_ble_eq_true rfl) dJx4a65c_grow_92f84_59

def rm_c_grow1_n : Room := { frames := 3, cells := 1, slots := 300, locals := 84 }
set_option maxHeartbeats 4000000 in
set_option maxRecDepth 100000 in
/-- grow(n + 1) of a full list -/
theorem c_grow1_n (l : Launch) (G : gG) (h : Nat) (mo : Nat) (q : Nat) (n : Nat) (f : Nat → Option Nat) (Z : va_W) (El : Nat → Prop) (hZ : gEl G Z El) (hn2 : 2 ≤ n) (hn : n ≤ 100) (hf : ∀ i, i < n → ∀ y, f i = some y → El y) : gMet (S := Nat) l G yJx4a65c_grow_92f84 wsJx4a65c_grow_92f84 rm_c_grow1_n [.ref h, .int (nI (n + 1))] ([(h, .inr (2, [.int (nI mo), .ref q, .int (nI n)])), (q, .inl (G.2.2.1 4, n, .inr (.inr (.inr (.inr f)))))] ++ Z) (fun _ => True) (fun q2 => some (.ref q2)) (fun q2 => ([(h, .inr (2, [.int (nI mo), .ref q2, .int (nI n)])), (q2, .inl (G.2.2.1 4, (n + max (n + 1 - n) (n / 2 ^ 1)), .inr (.inr (.inr (.inr (va_cpy f (fun _ => none) 0 0 n))))))] ++ Z)) := by
  refine gOf (maxL := 4) (ret := (some (.array (.object "java/lang/Object")))) (cc := cJx4a65c_grow_92f84) (by decide) rfl (Nat.le_of_ble_eq_true rfl) ?_
  intro P9 e9 s m9 args below meth c9 A ls H locs Q hQ hx hb hml hr hown hts hlocks hin hK hP hD hS hA hE hl
  have hown : s.vm.findClass RJx4a65c = some m9.cls := hown
  have hl : lv_has ls 4 [(0, .ref h), (1, .int (nI (n + 1)))] := hl
  refine lv_aload_n hx hb dJx4a65c_grow_92f84_0 rfl (lv_at hl 0 rfl) ?_
  refine va_get (D := gD G) (ci := 2) (v := .ref q) (C := RJx4a65c) (T := TJx4a65c) (N := 3) hx hb hts (by decide +kernel) hown hK hP 0 rfl rfl 1 (by decide) (hts (.fieldLink RJx4a65c 9 "java/util/ArrayList" "elementData" "[Ljava/lang/Object;") (by decide +kernel)) (fun _ h9 => h9) rfl dJx4a65c_grow_92f84_1 ?_
  refine va_alen (v := nI n) hx hb hK hP 1 4 rfl rfl rfl dJx4a65c_grow_92f84_4 ?_
  refine lv_istore_n (lv' := [(2, .int (nI n)), (0, .ref h), (1, .int (nI (n + 1)))]) hx hb dJx4a65c_grow_92f84_5 rfl hl (by decide) rfl (fun ls hl => ?_)
  refine lv_iload_n hx hb dJx4a65c_grow_92f84_6 rfl (lv_at hl 0 rfl) ?_
  refine lv_if_gt (tgt := 20) hx hb dJx4a65c_grow_92f84_7 (by decide) (fun _ => ?_) (fun h9 => absurd (nI_lt (a := 0) (b := n) (by omega) (by omega)) h9)
  refine lv_iload_n hx hb dJx4a65c_grow_92f84_20 rfl (lv_at hl 0 rfl) ?_
  refine lv_iload_n hx hb dJx4a65c_grow_92f84_21 rfl (lv_at hl 2 rfl) ?_
  refine lv_iload_n hx hb dJx4a65c_grow_92f84_22 rfl (lv_at hl 0 rfl) ?_
  refine lv_isub hx hb dJx4a65c_grow_92f84_23 ?_
  refine gTop (y := (nI ((n + 1) - n))) (pk_sub (by omega)) ?_
  refine lv_iload_n hx hb dJx4a65c_grow_92f84_24 rfl (lv_at hl 0 rfl) ?_
  refine lv_iconst (v := nI 1) hx hb dJx4a65c_grow_92f84_25 (by decide) ?_
  refine lv_ishr hx hb dJx4a65c_grow_92f84_26 ?_
  refine gTop (y := (nI (n / 2 ^ 1))) (n_shr (by omega) (by decide)) ?_
  have hsh : n / 2 ^ 1 ≤ n := Nat.div_le_self _ _
  refine gCSJ (As := [.int (nI n), .int (nI ((n + 1) - n)), .int (nI (n / 2 ^ 1))]) (rest := []) hE (c_newLength l G n ((n + 1) - n) (n / 2 ^ 1) (by omega) (by omega) (by omega) (by omega)) (va_cwS 3 hts gJx4a65c_grow_92f84_J8_newLength_cabcc rfl rfl rfl (by decide +kernel) ⟨Nat.le_of_ble_eq_true rfl, Nat.le_of_ble_eq_true rfl⟩) ⟨hx, hb, hml, hown, hts⟩ hK hP hD hS hA (gJnQ (wr := [(h, .inr (2, [.int (nI mo), .ref q, .int (nI n)])), (q, .inl (G.2.2.1 4, n, .inr (.inr (.inr (.inr f)))))]) [] [0, 1] rfl rfl (by decide) (by decide) (by decide)) rfl hl rfl (Nat.le_of_ble_eq_true rfl) dJx4a65c_grow_92f84_27 ⟨Nat.le_of_ble_eq_true rfl, Nat.le_of_ble_eq_true rfl⟩ (fun u9 H locs hu hP hD hS => ?_)
  have hP : va_P (gD G) vwCl ([(h, .inr (2, [.int (nI mo), .ref q, .int (nI n)])), (q, .inl (G.2.2.1 4, n, .inr (.inr (.inr (.inr f)))))] ++ Z) H := hP
  have hD : va_D A ([(h, .inr (2, [.int (nI mo), .ref q, .int (nI n)])), (q, .inl (G.2.2.1 4, n, .inr (.inr (.inr (.inr f)))))] ++ Z) := hD
  refine W.eq (g2 := F0 m9 30 ls [.int (nI (n + max ((n + 1) - n) (n / 2 ^ 1)))]) rfl ?_
  have hmx : max (n + 1 - n) (n / 2 ^ 1) < 150 := Nat.max_lt.mpr ⟨by omega, by omega⟩
  refine lv_istore_n (lv' := [(3, .int (nI (n + max ((n + 1) - n) (n / 2 ^ 1)))), (2, .int (nI n)), (0, .ref h), (1, .int (nI (n + 1)))]) hx hb dJx4a65c_grow_92f84_30 rfl hl (by decide) rfl (fun ls hl => ?_)
  refine lv_aload_n hx hb dJx4a65c_grow_92f84_31 rfl (lv_at hl 2 rfl) ?_
  refine lv_aload_n hx hb dJx4a65c_grow_92f84_32 rfl (lv_at hl 2 rfl) ?_
  refine va_get (D := gD G) (ci := 2) (v := .ref q) (C := RJx4a65c) (T := TJx4a65c) (N := 3) hx hb hts (by decide +kernel) hown hK hP 0 rfl rfl 1 (by decide) (hts (.fieldLink RJx4a65c 9 "java/util/ArrayList" "elementData" "[Ljava/lang/Object;") (by decide +kernel)) (fun _ h9 => h9) rfl dJx4a65c_grow_92f84_33 ?_
  refine lv_iload_n hx hb dJx4a65c_grow_92f84_36 rfl (lv_at hl 0 rfl) ?_
  refine gCSJ (As := [.ref q, .int (nI (n + max ((n + 1) - n) (n / 2 ^ 1)))]) (rest := [.ref h]) hE (c_copyOf l G q n f (n + max ((n + 1) - n) (n / 2 ^ 1)) Z El hZ (by omega) (by omega) (by omega) hf) (va_cwS 2 hts gJx4a65c_grow_92f84_J7_copyOf_1904c rfl rfl rfl (by decide +kernel) ⟨Nat.le_of_ble_eq_true rfl, Nat.le_of_ble_eq_true rfl⟩) ⟨hx, hb, hml, hown, hts⟩ hK hP hD hS hA (gJnP (wr := [(h, .inr (2, [.int (nI mo), .ref q, .int (nI n)]))]) [1] [0] rfl rfl (by decide) (by decide) (by decide)) rfl hl rfl (Nat.le_of_ble_eq_true rfl) dJx4a65c_grow_92f84_37 ⟨Nat.le_of_ble_eq_true rfl, Nat.le_of_ble_eq_true rfl⟩ (fun q1 H locs hu hP hD hS => ?_)
  have hP : va_P (gD G) vwCl ([(h, .inr (2, [.int (nI mo), .ref q, .int (nI n)])), (q, .inl (G.2.2.1 4, n, .inr (.inr (.inr (.inr f))))), (q1, .inl (G.2.2.1 4, n + max ((n + 1) - n) (n / 2 ^ 1), .inr (.inr (.inr (.inr (va_cpy f (fun _ => none) 0 0 n))))))] ++ Z) H := hP
  have hD : va_D A ([(h, .inr (2, [.int (nI mo), .ref q, .int (nI n)])), (q, .inl (G.2.2.1 4, n, .inr (.inr (.inr (.inr f))))), (q1, .inl (G.2.2.1 4, n + max ((n + 1) - n) (n / 2 ^ 1), .inr (.inr (.inr (.inr (va_cpy f (fun _ => none) 0 0 n))))))] ++ Z) := hD
  refine W.widen (k := 1) (n := 300) (Nat.le_of_ble_eq_true rfl) (Nat.le_of_ble_eq_true rfl) ?_
  refine W.eq (g2 := F0 m9 40 ls [.ref q1, .ref h]) rfl ?_
  refine lv_dup_x1 hx hb dJx4a65c_grow_92f84_40 rfl rfl ?_
  refine va_put (D := gD G) (ci := 2) (v := .ref q1) (ty := (tyJx4a65c 1)) (C := RJx4a65c) (T := TJx4a65c) (N := 3) hx hb hts (by decide +kernel) tyJx4a65c tyJx4a65c_ok nmJx4a65c hown hK hP hD hS 0 rfl rfl 1 (by decide) (hts (.fieldLink RJx4a65c 9 "java/util/ArrayList" "elementData" "[Ljava/lang/Object;") (by decide +kernel)) (fun _ h9 => h9) rfl (by decide +kernel) rfl rfl (Nat.le_of_ble_eq_true rfl) dJx4a65c_grow_92f84_41 (fun H locs hP hD hS => ?_)
  have hP : va_P (gD G) vwCl ([(h, .inr (2, [.int (nI mo), .ref q1, .int (nI n)])), (q, .inl (G.2.2.1 4, n, .inr (.inr (.inr (.inr f))))), (q1, .inl (G.2.2.1 4, n + max ((n + 1) - n) (n / 2 ^ 1), .inr (.inr (.inr (.inr (va_cpy f (fun _ => none) 0 0 n))))))] ++ Z) H := hP
  have hD : va_D A ([(h, .inr (2, [.int (nI mo), .ref q1, .int (nI n)])), (q, .inl (G.2.2.1 4, n, .inr (.inr (.inr (.inr f))))), (q1, .inl (G.2.2.1 4, n + max ((n + 1) - n) (n / 2 ^ 1), .inr (.inr (.inr (.inr (va_cpy f (fun _ => none) 0 0 n))))))] ++ Z) := hD
  exact gAretT (hQ := hQ) hx hb hr (by first | exact Or.inl ⟨_, rfl⟩ | exact Or.inr ⟨_, rfl⟩) hlocks hS q1 trivial (by rfl) (gtP hP [0, 2] rfl) (gtD hD [0, 2] (by decide) rfl) (Nat.le_of_ble_eq_true rfl) (Nat.le_of_ble_eq_true rfl) dJx4a65c_grow_92f84_44

def rm_c_grow0_0 : Room := { frames := 2, cells := 1, slots := 10, locals := 37 }
set_option maxHeartbeats 4000000 in
set_option maxRecDepth 100000 in
/-- grow() of an empty list -/
theorem c_grow0_0 (l : Launch) (G : gG) (h : Nat) (mo : Nat)  : gMet (S := Nat) l G yJx4a65c_grow_d5877 wsJx4a65c_grow_d5877 rm_c_grow0_0 [.ref h] [(h, .inr (2, [.int (nI mo), .ref (G.2.2.2 0), .int (nI 0)]))] (fun _ => True) (fun q => some (.ref q)) (fun q => [(h, .inr (2, [.int (nI mo), .ref q, .int (nI 0)])), (q, .inl (G.2.2.1 4, 10, .inr (.inr (.inr (.inr (fun _ => none))))))]) := by
  refine gOf (maxL := 1) (ret := (some (.array (.object "java/lang/Object")))) (cc := cJx4a65c_grow_d5877) (by decide) rfl (Nat.le_of_ble_eq_true rfl) ?_
  intro P9 e9 s m9 args below meth c9 A ls H locs Q hQ hx hb hml hr hown hts hlocks hin hK hP hD hS hA hE hl
  have hown : s.vm.findClass RJx4a65c = some m9.cls := hown
  have hl : lv_has ls 1 [(0, .ref h)] := hl
  refine lv_aload_n hx hb dJx4a65c_grow_d5877_0 rfl (lv_at hl 0 rfl) ?_
  refine lv_aload_n hx hb dJx4a65c_grow_d5877_1 rfl (lv_at hl 0 rfl) ?_
  refine va_get (D := gD G) (ci := 2) (v := .int (nI 0)) (C := RJx4a65c) (T := TJx4a65c) (N := 3) hx hb hts (by decide +kernel) hown hK hP 0 rfl rfl 2 (by decide) (hts (.fieldLink RJx4a65c 48 "java/util/ArrayList" "size" "I") (by decide +kernel)) (fun _ h9 => h9) rfl dJx4a65c_grow_d5877_2 ?_
  refine lv_iconst (v := nI 1) hx hb dJx4a65c_grow_d5877_5 (by decide) ?_
  refine lv_iadd hx hb dJx4a65c_grow_d5877_6 ?_
  refine gTop (y := (nI (0 + 1))) (nI_add _ _) ?_
  refine gTop (y := nI 1) rfl ?_
  refine gCV (ci := 2) (q0 := 0) (C := RJx4a65c) (As := [.int (nI 1)]) (rest := []) (wr := []) hE (c_grow1_0 l G h mo) (cwV 1 hts gJx4a65c_grow_d5877_Jx4a65c_grow_92f84 rfl rfl rfl (by decide +kernel) ⟨Nat.le_of_ble_eq_true rfl, Nat.le_of_ble_eq_true rfl⟩) ⟨hx, hb, hml, hown, hts⟩ hK hP hD hS hA [0] [] rfl rfl (by decide) (by decide) (by decide) rfl rfl rfl hl rfl (Nat.le_of_ble_eq_true rfl) dJx4a65c_grow_d5877_7 ⟨Nat.le_of_ble_eq_true rfl, Nat.le_of_ble_eq_true rfl⟩ (fun q1 H locs hu hP hD hS => ?_)
  have hP : va_P (gD G) vwCl [(h, .inr (2, [.int (nI mo), .ref q1, .int (nI 0)])), (q1, .inl (G.2.2.1 4, 10, .inr (.inr (.inr (.inr (fun _ => none))))))] H := hP
  have hD : va_D A [(h, .inr (2, [.int (nI mo), .ref q1, .int (nI 0)])), (q1, .inl (G.2.2.1 4, 10, .inr (.inr (.inr (.inr (fun _ => none))))))] := hD
  refine W.widen (k := 1) (n := 10) (Nat.le_of_ble_eq_true rfl) (Nat.le_of_ble_eq_true rfl) ?_
  refine W.eq (g2 := F0 m9 10 ls [.ref q1]) rfl ?_
  exact gAret (hQ := hQ) hx hb hr (by first | exact Or.inl ⟨_, rfl⟩ | exact Or.inr ⟨_, rfl⟩) hlocks hP hD hS q1 trivial (by rfl) [0, 1] (by decide) (by rfl) (Nat.le_of_ble_eq_true rfl) (Nat.le_of_ble_eq_true rfl) dJx4a65c_grow_d5877_10

def rm_c_grow0_n : Room := { frames := 4, cells := 1, slots := 300, locals := 107 }
set_option maxHeartbeats 4000000 in
set_option maxRecDepth 100000 in
/-- grow() of a full list -/
theorem c_grow0_n (l : Launch) (G : gG) (h : Nat) (mo : Nat) (q : Nat) (n : Nat) (f : Nat → Option Nat) (Z : va_W) (El : Nat → Prop) (hZ : gEl G Z El) (hn2 : 2 ≤ n) (hn : n ≤ 100) (hf : ∀ i, i < n → ∀ y, f i = some y → El y) : gMet (S := Nat) l G yJx4a65c_grow_d5877 wsJx4a65c_grow_d5877 rm_c_grow0_n [.ref h] ([(h, .inr (2, [.int (nI mo), .ref q, .int (nI n)])), (q, .inl (G.2.2.1 4, n, .inr (.inr (.inr (.inr f)))))] ++ Z) (fun _ => True) (fun q2 => some (.ref q2)) (fun q2 => ([(h, .inr (2, [.int (nI mo), .ref q2, .int (nI n)])), (q2, .inl (G.2.2.1 4, (n + max (n + 1 - n) (n / 2 ^ 1)), .inr (.inr (.inr (.inr (va_cpy f (fun _ => none) 0 0 n))))))] ++ Z)) := by
  refine gOf (maxL := 1) (ret := (some (.array (.object "java/lang/Object")))) (cc := cJx4a65c_grow_d5877) (by decide) rfl (Nat.le_of_ble_eq_true rfl) ?_
  intro P9 e9 s m9 args below meth c9 A ls H locs Q hQ hx hb hml hr hown hts hlocks hin hK hP hD hS hA hE hl
  have hown : s.vm.findClass RJx4a65c = some m9.cls := hown
  have hl : lv_has ls 1 [(0, .ref h)] := hl
  refine lv_aload_n hx hb dJx4a65c_grow_d5877_0 rfl (lv_at hl 0 rfl) ?_
  refine lv_aload_n hx hb dJx4a65c_grow_d5877_1 rfl (lv_at hl 0 rfl) ?_
  refine va_get (D := gD G) (ci := 2) (v := .int (nI n)) (C := RJx4a65c) (T := TJx4a65c) (N := 3) hx hb hts (by decide +kernel) hown hK hP 0 rfl rfl 2 (by decide) (hts (.fieldLink RJx4a65c 48 "java/util/ArrayList" "size" "I") (by decide +kernel)) (fun _ h9 => h9) rfl dJx4a65c_grow_d5877_2 ?_
  refine lv_iconst (v := nI 1) hx hb dJx4a65c_grow_d5877_5 (by decide) ?_
  refine lv_iadd hx hb dJx4a65c_grow_d5877_6 ?_
  refine gTop (y := (nI (n + 1))) (nI_add _ _) ?_
  refine gCVJ (ci := 2) (q0 := 0) (C := RJx4a65c) (As := [.int (nI (n + 1))]) (rest := []) hE (c_grow1_n l G h mo q n f Z El hZ (by omega) (by omega) hf) (cwV 1 hts gJx4a65c_grow_d5877_Jx4a65c_grow_92f84 rfl rfl rfl (by decide +kernel) ⟨Nat.le_of_ble_eq_true rfl, Nat.le_of_ble_eq_true rfl⟩) ⟨hx, hb, hml, hown, hts⟩ hK hP hD hS hA (gJnP (wr := []) [0, 1] [] rfl rfl (by decide) (by decide) (by decide)) rfl rfl rfl hl rfl (Nat.le_of_ble_eq_true rfl) dJx4a65c_grow_d5877_7 ⟨Nat.le_of_ble_eq_true rfl, Nat.le_of_ble_eq_true rfl⟩ (fun q1 H locs hu hP hD hS => ?_)
  have hP : va_P (gD G) vwCl ([(h, .inr (2, [.int (nI mo), .ref q1, .int (nI n)])), (q1, .inl (G.2.2.1 4, n + max (n + 1 - n) (n / 2 ^ 1), .inr (.inr (.inr (.inr (va_cpy f (fun _ => none) 0 0 n))))))] ++ Z) H := hP
  have hD : va_D A ([(h, .inr (2, [.int (nI mo), .ref q1, .int (nI n)])), (q1, .inl (G.2.2.1 4, n + max (n + 1 - n) (n / 2 ^ 1), .inr (.inr (.inr (.inr (va_cpy f (fun _ => none) 0 0 n))))))] ++ Z) := hD
  refine W.widen (k := 1) (n := 300) (Nat.le_of_ble_eq_true rfl) (Nat.le_of_ble_eq_true rfl) ?_
  refine W.eq (g2 := F0 m9 10 ls [.ref q1]) rfl ?_
  exact gAretT (hQ := hQ) hx hb hr (by first | exact Or.inl ⟨_, rfl⟩ | exact Or.inr ⟨_, rfl⟩) hlocks hS q1 trivial (by rfl) (gtP hP [0, 1] rfl) (gtD hD [0, 1] (by decide) rfl) (Nat.le_of_ble_eq_true rfl) (Nat.le_of_ble_eq_true rfl) dJx4a65c_grow_d5877_10
