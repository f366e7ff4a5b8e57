/-! Kinship -/
theorem clr_lt {a b : Nat} (h : a < 128) : clr a b < 128 := Nat.xor_lt_two_pow (n := 7) h (Nat.lt_of_le_of_lt Nat.and_le_left h)
theorem va_up_at {α : Type} (f : Nat → α) (k : Nat) (v : α) (j : Nat) : va_up f k v j = if j = k then v else f j := rfl
theorem m7_up {f : Nat → Nat} (hf : m7 f) {k x : Nat} (hx : x < 128) : m7 (va_up f k x) := fun i hi => by
  rw [va_up_at]; split
  · exact hx
  · exact hf i hi
theorem m7_lnk {f : Nat → Nat} (hf : m7 f) {a b : Nat} (ha : a < 7) (hb : b < 7) : m7 (lnk f a b) := by
  have h1 : m7 (va_up f a (f a ||| 2 ^ b)) := m7_up hf (Nat.or_lt_two_pow (n := 7) (hf a ha) (two_pow7 b hb))
  exact m7_up h1 (Nat.or_lt_two_pow (n := 7) (h1 b hb) (two_pow7 a ha))
theorem m7_unl {f : Nat → Nat} (hf : m7 f) {a b : Nat} (ha : a < 7) (hb : b < 7) : m7 (unl f a b) := by
  have h1 : m7 (va_up f a (clr (f a) (2 ^ b))) := m7_up hf (clr_lt (hf a ha))
  exact m7_up h1 (clr_lt (h1 b hb))
/-- those within the bar, as findBarred has it -/
def brd (f : Nat → Nat) (br i : Nat) : Nat := clr (rchN f (2 ^ i) br) (2 ^ i)
theorem brd_lt {f : Nat → Nat} (hf : m7 f) {br i : Nat} (hi : i < 7) : brd f br i < 128 := clr_lt (rchN_lt hf (two_pow7 i hi) br)
def isB (f : Nat → Nat) (br : Nat) (g : Nat → Nat) : Prop := ∀ i, i < 7 → g i = brd f br i
/-- the pair i, j of the line is within the bar -/
def pw (g : Nat → Nat) (line i j : Nat) : Bool := line.testBit i && (line.testBit j && (g i).testBit j)
def pairR (g : Nat → Nat) (line cnt : Nat) (r : Int32) : Prop := (r = -1 ∧ ∀ i j, i < j → j < cnt → pw g line i j = false) ∨ ∃ i j, i < j ∧ j < cnt ∧ pw g line i j = true ∧ r = nI (i * 10 + j)
def kinF (z : Nat) (f : Nat → Nat) (a b : Nat) : Nat → Nat := if z = 0 then unl f a b else lnk f a b
theorem m7_kinF {z : Nat} {f : Nat → Nat} (hf : m7 f) {a b : Nat} (ha : a < 7) (hb : b < 7) : m7 (kinF z f a b) := by
  unfold kinF; split
  · exact m7_unl hf ha hb
  · exact m7_lnk hf ha hb

def rm_c_Kin_init : Room := { frames := 2, cells := 3, slots := 15, locals := 32 }
set_option maxHeartbeats 4000000 in
set_option maxRecDepth 100000 in
/-- Kinship() -/
theorem c_Kin_init (l : Launch) (G : gG) (h : Nat) (x1 : Value) (x2 : Value) (x4 : Value)  : gMet (S := Nat × Nat × Nat) l G yX0_init wsX0_init rm_c_Kin_init [.ref h] [(h, .inr (3, [x1, x2, .int (nI 0), x4]))] (fun _ => True) (fun _ => none) (fun u => [(h, .inr (3, [.ref u.1, .ref u.2.2, .int (nI 0), .int (nI 1)])), (u.1, .inr (4, [.ref u.2.1])), (u.2.1, .inl (G.2.2.1 0, 7, .inl (nA (fun _ => 0)))), (u.2.2, .inl (G.2.2.1 0, 7, .inl (nA (fun _ => 0))))]) := by
  refine gOf (maxL := 1) (ret := none) (cc := cX0_init) (by decide) rfl (Nat.le_of_ble_eq_true rfl) ?_
  intro P9 e9 s m9 args below meth c9 A ls H locs Q hQ hx hb hml hr hown hts hlocks hin hK hP hD hS hA hE hl
  have hown : s.vm.findClass RX0 = some m9.cls := hown
  have hl : lv_has ls 1 [(0, .ref h)] := hl
  refine lv_aload_n hx hb dX0_init_0 rfl (lv_at hl 0 rfl) ?_
  refine W.objInit hx hb hown (hts (.methodLink RX0 3 objectInit) (by decide +kernel)) (hts (.instanceMethod objectInit) (by decide +kernel)) (hts _ (by decide +kernel)) rfl (by rw [hml]; exact hl.1) rfl dX0_init_1 (Nat.le_of_ble_eq_true rfl) (Nat.le_of_ble_eq_true rfl) ?_
  refine W.eq (g2 := F0 m9 4 ls []) rfl ?_
  refine lv_aload_n hx hb dX0_init_4 rfl (lv_at hl 0 rfl) ?_
  refine va_new (ci := 4) (fs := [.null]) (C := RX1) (T := TX1) (N := 1) hx hb hts (by decide +kernel) tyX1 tyX1_ok hown (hts (.classLink RX0 9 RX1) (by decide +kernel)) (hts (.instantiable RX1 1) (by decide +kernel)) (hts (.initialized RX1) (by decide +kernel)) hK hP hD hS hA rfl (fun j hj => by rcases (show j = 0 by omega) with rfl <;> rfl) (Nat.le_of_ble_eq_true rfl) (Nat.le_of_ble_eq_true rfl) dX0_init_5 (fun q1 H hP hD hS => ?_)
  have hP : va_P (gD G) vwCl [(h, .inr (3, [x1, x2, .int (nI 0), x4])), (q1, .inr (4, [.null]))] H := hP
  have hD : va_D A [(h, .inr (3, [x1, x2, .int (nI 0), x4])), (q1, .inr (4, [.null]))] := hD
  refine W.widen (k := 1) (n := 1) (Nat.le_of_ble_eq_true rfl) (Nat.le_of_ble_eq_true rfl) ?_
  refine lv_dup hx hb dX0_init_8 rfl ?_
  refine gCIN (As := []) (rest := [.ref q1, .ref h]) (wr := [(h, .inr (3, [x1, x2, .int (nI 0), x4]))]) hE (c_Links_init l G q1 .null) ⟨va_cnB 0 hts ggX0_init_X1_init rfl rfl rfl (hE.nest 4 rfl) (hts (.initialized RX1) (by decide +kernel)) (by decide +kernel) ⟨Nat.le_of_ble_eq_true rfl, Nat.le_of_ble_eq_true rfl⟩, rfl, (hts (.instanceMethod yX1_init) (by decide +kernel))⟩ ⟨hx, hb, hml, hown, hts⟩ hK hP hD hS hA [1] [0] rfl rfl (by decide) (by decide) (by decide) rfl hl rfl (Nat.le_of_ble_eq_true rfl) dX0_init_9 ⟨Nat.le_of_ble_eq_true rfl, Nat.le_of_ble_eq_true rfl⟩ (fun q2 H locs hu hP hD hS => ?_)
  have hP : va_P (gD G) vwCl [(h, .inr (3, [x1, x2, .int (nI 0), x4])), (q1, .inr (4, [.ref q2])), (q2, .inl (G.2.2.1 0, 7, .inl (nA (fun _ => 0))))] H := hP
  have hD : va_D A [(h, .inr (3, [x1, x2, .int (nI 0), x4])), (q1, .inr (4, [.ref q2])), (q2, .inl (G.2.2.1 0, 7, .inl (nA (fun _ => 0))))] := hD
  refine W.widen (k := 2) (n := 8) (Nat.le_of_ble_eq_true rfl) (Nat.le_of_ble_eq_true rfl) ?_
  refine W.eq (g2 := F0 m9 12 ls [.ref q1, .ref h]) rfl ?_
  refine va_putF (D := gD G) (ci := 3) (v := .ref q1) (ty := (tyX0 0)) (C := RX0) (T := TX0) (N := 4) hx hb hts (by decide +kernel) tyX0 tyX0_ok nmX0 hown hK hP hD hS 0 rfl rfl 0 (by decide) (hts (.fieldLink RX0 12 "Degreewall$Kinship" "kin" "LDegreewall$Links;") (by decide +kernel)) (fun _ h9 => h9) rfl hin rfl (by decide +kernel) rfl rfl (Nat.le_of_ble_eq_true rfl) dX0_init_12 (fun H locs hP hD hS => ?_)
  have hP : va_P (gD G) vwCl [(h, .inr (3, [.ref q1, x2, .int (nI 0), x4])), (q1, .inr (4, [.ref q2])), (q2, .inl (G.2.2.1 0, 7, .inl (nA (fun _ => 0))))] H := hP
  have hD : va_D A [(h, .inr (3, [.ref q1, x2, .int (nI 0), x4])), (q1, .inr (4, [.ref q2])), (q2, .inl (G.2.2.1 0, 7, .inl (nA (fun _ => 0))))] := hD
  refine lv_aload_n hx hb dX0_init_15 rfl (lv_at hl 0 rfl) ?_
  refine lv_bipush (v := nI 7) hx hb dX0_init_16 (by decide) ?_
  refine gN_newa (n := 7) hx hb (hts (.arrayClass .int) (by decide +kernel)) hK hP hD hS hA (by decide) (by decide) (Nat.le_of_ble_eq_true rfl) (Nat.le_of_ble_eq_true rfl) dX0_init_18 (fun q3 H hP hD hS => ?_)
  have hP : va_P (gD G) vwCl [(h, .inr (3, [.ref q1, x2, .int (nI 0), x4])), (q1, .inr (4, [.ref q2])), (q2, .inl (G.2.2.1 0, 7, .inl (nA (fun _ => 0)))), (q3, .inl (G.2.2.1 0, 7, .inl (nA (fun _ => 0))))] H := hP
  have hD : va_D A [(h, .inr (3, [.ref q1, x2, .int (nI 0), x4])), (q1, .inr (4, [.ref q2])), (q2, .inl (G.2.2.1 0, 7, .inl (nA (fun _ => 0)))), (q3, .inl (G.2.2.1 0, 7, .inl (nA (fun _ => 0))))] := hD
  refine W.widen (k := 3) (n := 15) (Nat.le_of_ble_eq_true rfl) (Nat.le_of_ble_eq_true rfl) ?_
  refine va_putF (D := gD G) (ci := 3) (v := .ref q3) (ty := (tyX0 1)) (C := RX0) (T := TX0) (N := 4) hx hb hts (by decide +kernel) tyX0 tyX0_ok nmX0 hown hK hP hD hS 0 rfl rfl 1 (by decide) (hts (.fieldLink RX0 18 "Degreewall$Kinship" "barred" "[I") (by decide +kernel)) (fun _ h9 => h9) rfl hin rfl (by decide +kernel) rfl rfl (Nat.le_of_ble_eq_true rfl) dX0_init_20 (fun H locs hP hD hS => ?_)
  have hP : va_P (gD G) vwCl [(h, .inr (3, [.ref q1, .ref q3, .int (nI 0), x4])), (q1, .inr (4, [.ref q2])), (q2, .inl (G.2.2.1 0, 7, .inl (nA (fun _ => 0)))), (q3, .inl (G.2.2.1 0, 7, .inl (nA (fun _ => 0))))] H := hP
  have hD : va_D A [(h, .inr (3, [.ref q1, .ref q3, .int (nI 0), x4])), (q1, .inr (4, [.ref q2])), (q2, .inl (G.2.2.1 0, 7, .inl (nA (fun _ => 0)))), (q3, .inl (G.2.2.1 0, 7, .inl (nA (fun _ => 0))))] := hD
  refine lv_aload_n hx hb dX0_init_23 rfl (lv_at hl 0 rfl) ?_
  refine lv_iconst (v := nI 1) hx hb dX0_init_24 (by decide) ?_
  refine va_put (D := gD G) (ci := 3) (v := .int (nI 1)) (ty := .int) (C := RX0) (T := TX0) (N := 4) hx hb hts (by decide +kernel) tyX0 tyX0_ok nmX0 hown hK hP hD hS 0 rfl rfl 3 (by decide) (hts (.fieldLink RX0 22 "Degreewall$Kinship" "bar" "I") (by decide +kernel)) (fun _ h9 => h9) rfl (by decide +kernel) rfl rfl (Nat.le_of_ble_eq_true rfl) dX0_init_25 (fun H locs hP hD hS => ?_)
  have hP : va_P (gD G) vwCl [(h, .inr (3, [.ref q1, .ref q3, .int (nI 0), .int (nI 1)])), (q1, .inr (4, [.ref q2])), (q2, .inl (G.2.2.1 0, 7, .inl (nA (fun _ => 0)))), (q3, .inl (G.2.2.1 0, 7, .inl (nA (fun _ => 0))))] H := hP
  have hD : va_D A [(h, .inr (3, [.ref q1, .ref q3, .int (nI 0), .int (nI 1)])), (q1, .inr (4, [.ref q2])), (q2, .inl (G.2.2.1 0, 7, .inl (nA (fun _ => 0)))), (q3, .inl (G.2.2.1 0, 7, .inl (nA (fun _ => 0))))] := hD
  exact gVret (hQ := hQ) hx hb hr hlocks hP hD hS (q1, q2, q3) trivial (by rfl) [0, 1, 2, 3] (by decide) (by rfl) (Nat.le_of_ble_eq_true rfl) (Nat.le_of_ble_eq_true rfl) dX0_init_28

def rm_c_Kin_count : Room := { frames := 0, cells := 0, slots := 0, locals := 0 }
set_option maxHeartbeats 4000000 in
set_option maxRecDepth 100000 in
/-- count() -/
theorem c_Kin_count (l : Launch) (G : gG) (h : Nat) (hl0 : Nat) (qn : Nat) (qb : Nat) (f : Nat → Nat) (g : Nat → Nat) (cnt : Nat) (br : Nat)  : gMet (S := Unit) l G yX0_count wsX0_count rm_c_Kin_count [.ref h] [(h, .inr (3, [.ref hl0, .ref qb, .int (nI cnt), .int (nI br)])), (hl0, .inr (4, [.ref qn])), (qn, .inl (G.2.2.1 0, 7, .inl (nA f))), (qb, .inl (G.2.2.1 0, 7, .inl (nA g)))] (fun _ => True) (fun _ => some (.int (nI cnt))) (fun _ => [(h, .inr (3, [.ref hl0, .ref qb, .int (nI cnt), .int (nI br)])), (hl0, .inr (4, [.ref qn])), (qn, .inl (G.2.2.1 0, 7, .inl (nA f))), (qb, .inl (G.2.2.1 0, 7, .inl (nA g)))]) := by
  refine gOf (maxL := 1) (ret := (some .int)) (cc := cX0_count) (by decide) rfl (Nat.le_of_ble_eq_true rfl) ?_
  intro P9 e9 s m9 args below meth c9 A ls H locs Q hQ hx hb hml hr hown hts hlocks hin hK hP hD hS hA hE hl
  have hown : s.vm.findClass RX0 = some m9.cls := hown
  have hl : lv_has ls 1 [(0, .ref h)] := hl
  refine lv_aload_n hx hb dX0_count_0 rfl (lv_at hl 0 rfl) ?_
  refine va_get (D := gD G) (ci := 3) (v := .int (nI cnt)) (C := RX0) (T := TX0) (N := 4) hx hb hts (by decide +kernel) hown hK hP 0 rfl rfl 2 (by decide) (hts (.fieldLink RX0 26 "Degreewall$Kinship" "count" "I") (by decide +kernel)) (fun _ h9 => h9) rfl dX0_count_1 ?_
  exact gIret (hQ := hQ) hx hb hr hlocks hP hD hS () trivial (by rfl) [0, 1, 2, 3] (by decide) (by rfl) (Nat.le_of_ble_eq_true rfl) (Nat.le_of_ble_eq_true rfl) dX0_count_4

def rm_c_Kin_knows : Room := { frames := 0, cells := 0, slots := 0, locals := 0 }
set_option maxHeartbeats 4000000 in
set_option maxRecDepth 100000 in
/-- knows(k) -/
theorem c_Kin_knows (l : Launch) (G : gG) (h : Nat) (hl0 : Nat) (qn : Nat) (qb : Nat) (f : Nat → Nat) (g : Nat → Nat) (cnt : Nat) (br : Nat) (k : Nat) (hk : k < 2 ^ 31) (hc : cnt < 2 ^ 31) : gMet (S := Unit) l G yX0_knows wsX0_knows rm_c_Kin_knows [.ref h, .int (nI k)] [(h, .inr (3, [.ref hl0, .ref qb, .int (nI cnt), .int (nI br)])), (hl0, .inr (4, [.ref qn])), (qn, .inl (G.2.2.1 0, 7, .inl (nA f))), (qb, .inl (G.2.2.1 0, 7, .inl (nA g)))] (fun _ => True) (fun _ => some (.int (nI (if k < cnt then 1 else 0)))) (fun _ => [(h, .inr (3, [.ref hl0, .ref qb, .int (nI cnt), .int (nI br)])), (hl0, .inr (4, [.ref qn])), (qn, .inl (G.2.2.1 0, 7, .inl (nA f))), (qb, .inl (G.2.2.1 0, 7, .inl (nA g)))]) := by
  refine gOf (maxL := 2) (ret := (some .boolean)) (cc := cX0_knows) (by decide) rfl (Nat.le_of_ble_eq_true rfl) ?_
  intro P9 e9 s m9 args below meth c9 A ls H locs Q hQ hx hb hml hr hown hts hlocks hin hK hP hD hS hA hE hl
  have hown : s.vm.findClass RX0 = some m9.cls := hown
  have hl : lv_has ls 2 [(0, .ref h), (1, .int (nI k))] := hl
  refine lv_iload_n hx hb dX0_knows_0 rfl (lv_at hl 1 rfl) ?_
  refine gN_lt0 hx hb dX0_knows_1 (by omega) ?_ 16 (by decide)
  refine lv_iload_n hx hb dX0_knows_4 rfl (lv_at hl 1 rfl) ?_
  refine lv_aload_n hx hb dX0_knows_5 rfl (lv_at hl 0 rfl) ?_
  refine va_get (D := gD G) (ci := 3) (v := .int (nI cnt)) (C := RX0) (T := TX0) (N := 4) hx hb hts (by decide +kernel) hown hK hP 0 rfl rfl 2 (by decide) (hts (.fieldLink RX0 26 "Degreewall$Kinship" "count" "I") (by decide +kernel)) (fun _ h9 => h9) rfl dX0_knows_6 ?_
  refine gN_ge (tgt := 16) hx hb dX0_knows_9 (by decide) (by omega) (by omega) (fun c2 => ?_) (fun c2 => ?_)
  · refine lv_iconst (v := nI 0) hx hb dX0_knows_16 (by decide) ?_
    refine gTop (y := nI (if k < cnt then 1 else 0)) (by rw [if_neg (by omega)]) ?_
    exact gZret (hQ := hQ) hx hb hr hlocks (by split <;> first | exact Or.inl rfl | exact Or.inr rfl) hP hD hS () trivial (by rfl) [0, 1, 2, 3] (by decide) (by rfl) (Nat.le_of_ble_eq_true rfl) (Nat.le_of_ble_eq_true rfl) dX0_knows_17
  · refine lv_iconst (v := nI 1) hx hb dX0_knows_12 (by decide) ?_
    refine lv_goto (tgt := 17) hx hb dX0_knows_13 (by decide) ?_
    refine gTop (y := nI (if k < cnt then 1 else 0)) (by rw [if_pos (by omega)]) ?_
    exact gZret (hQ := hQ) hx hb hr hlocks (by split <;> first | exact Or.inl rfl | exact Or.inr rfl) hP hD hS () trivial (by rfl) [0, 1, 2, 3] (by decide) (by rfl) (Nat.le_of_ble_eq_true rfl) (Nat.le_of_ble_eq_true rfl) dX0_knows_17

def rm_c_Kin_addSource : Room := { frames := 0, cells := 0, slots := 0, locals := 0 }
set_option maxHeartbeats 4000000 in
set_option maxRecDepth 100000 in
/-- addSource() -/
theorem c_Kin_addSource (l : Launch) (G : gG) (h : Nat) (hl0 : Nat) (qn : Nat) (qb : Nat) (f : Nat → Nat) (g : Nat → Nat) (cnt : Nat) (br : Nat)  : gMet (S := Unit) l G yX0_addSource wsX0_addSource rm_c_Kin_addSource [.ref h] [(h, .inr (3, [.ref hl0, .ref qb, .int (nI cnt), .int (nI br)])), (hl0, .inr (4, [.ref qn])), (qn, .inl (G.2.2.1 0, 7, .inl (nA f))), (qb, .inl (G.2.2.1 0, 7, .inl (nA g)))] (fun _ => True) (fun _ => some (.int (nI cnt))) (fun _ => [(h, .inr (3, [.ref hl0, .ref qb, .int (nI (cnt + 1)), .int (nI br)])), (hl0, .inr (4, [.ref qn])), (qn, .inl (G.2.2.1 0, 7, .inl (nA f))), (qb, .inl (G.2.2.1 0, 7, .inl (nA g)))]) := by
  refine gOf (maxL := 1) (ret := (some .int)) (cc := cX0_addSource) (by decide) rfl (Nat.le_of_ble_eq_true rfl) ?_
  intro P9 e9 s m9 args below meth c9 A ls H locs Q hQ hx hb hml hr hown hts hlocks hin hK hP hD hS hA hE hl
  have hown : s.vm.findClass RX0 = some m9.cls := hown
  have hl : lv_has ls 1 [(0, .ref h)] := hl
  refine lv_aload_n hx hb dX0_addSource_0 rfl (lv_at hl 0 rfl) ?_
  refine lv_dup hx hb dX0_addSource_1 rfl ?_
  refine va_get (D := gD G) (ci := 3) (v := .int (nI cnt)) (C := RX0) (T := TX0) (N := 4) hx hb hts (by decide +kernel) hown hK hP 0 rfl rfl 2 (by decide) (hts (.fieldLink RX0 26 "Degreewall$Kinship" "count" "I") (by decide +kernel)) (fun _ h9 => h9) rfl dX0_addSource_2 ?_
  refine lv_iconst (v := nI 1) hx hb dX0_addSource_5 (by decide) ?_
  refine lv_iadd hx hb dX0_addSource_6 ?_
  refine gTop (y := (nI (cnt + 1))) (nI_add _ _) ?_
  refine va_put (D := gD G) (ci := 3) (v := .int (nI (cnt + 1))) (ty := .int) (C := RX0) (T := TX0) (N := 4) hx hb hts (by decide +kernel) tyX0 tyX0_ok nmX0 hown hK hP hD hS 0 rfl rfl 2 (by decide) (hts (.fieldLink RX0 26 "Degreewall$Kinship" "count" "I") (by decide +kernel)) (fun _ h9 => h9) rfl (by decide +kernel) rfl rfl (Nat.le_of_ble_eq_true rfl) dX0_addSource_7 (fun H locs hP hD hS => ?_)
  have hP : va_P (gD G) vwCl [(h, .inr (3, [.ref hl0, .ref qb, .int (nI (cnt + 1)), .int (nI br)])), (hl0, .inr (4, [.ref qn])), (qn, .inl (G.2.2.1 0, 7, .inl (nA f))), (qb, .inl (G.2.2.1 0, 7, .inl (nA g)))] H := hP
  have hD : va_D A [(h, .inr (3, [.ref hl0, .ref qb, .int (nI (cnt + 1)), .int (nI br)])), (hl0, .inr (4, [.ref qn])), (qn, .inl (G.2.2.1 0, 7, .inl (nA f))), (qb, .inl (G.2.2.1 0, 7, .inl (nA g)))] := hD
  refine lv_aload_n hx hb dX0_addSource_10 rfl (lv_at hl 0 rfl) ?_
  refine va_get (D := gD G) (ci := 3) (v := .int (nI (cnt + 1))) (C := RX0) (T := TX0) (N := 4) hx hb hts (by decide +kernel) hown hK hP 0 rfl rfl 2 (by decide) (hts (.fieldLink RX0 26 "Degreewall$Kinship" "count" "I") (by decide +kernel)) (fun _ h9 => h9) rfl dX0_addSource_11 ?_
  refine lv_iconst (v := nI 1) hx hb dX0_addSource_14 (by decide) ?_
  refine lv_isub hx hb dX0_addSource_15 ?_
  refine gTop (y := (nI ((cnt + 1) - 1))) (pk_sub (by omega)) ?_
  refine gTop (y := nI cnt) (congrArg nI (by omega)) ?_
  exact gIret (hQ := hQ) hx hb hr hlocks hP hD hS () trivial (by rfl) [0, 1, 2, 3] (by decide) (by rfl) (Nat.le_of_ble_eq_true rfl) (Nat.le_of_ble_eq_true rfl) dX0_addSource_16

def rm_c_Kin_findBarred : Room := { frames := 3, cells := 0, slots := 0, locals := 68 }
set_option maxHeartbeats 4000000 in
set_option maxRecDepth 100000 in
/-- findBarred() -/
theorem c_Kin_findBarred (l : Launch) (G : gG) (h : Nat) (hl0 : Nat) (qn : Nat) (qb : Nat) (f : Nat → Nat) (g : Nat → Nat) (cnt : Nat) (br : Nat) (hf : m7 f) (hbr : br < 2 ^ 31) : gMet (S := Nat → Nat) l G yX0_findBarred wsX0_findBarred rm_c_Kin_findBarred [.ref h] [(h, .inr (3, [.ref hl0, .ref qb, .int (nI cnt), .int (nI br)])), (hl0, .inr (4, [.ref qn])), (qn, .inl (G.2.2.1 0, 7, .inl (nA f))), (qb, .inl (G.2.2.1 0, 7, .inl (nA g)))] (fun g2 => isB f br g2) (fun _ => none) (fun g2 => [(h, .inr (3, [.ref hl0, .ref qb, .int (nI cnt), .int (nI br)])), (hl0, .inr (4, [.ref qn])), (qn, .inl (G.2.2.1 0, 7, .inl (nA f))), (qb, .inl (G.2.2.1 0, 7, .inl (nA g2)))]) := by
  refine gOf (maxL := 2) (ret := none) (cc := cX0_findBarred) (by decide) rfl (Nat.le_of_ble_eq_true rfl) ?_
  intro P9 e9 s m9 args below meth c9 A ls H locs Q hQ hx hb hml hr hown hts hlocks hin hK hP hD hS hA hE hl
  have hown : s.vm.findClass RX0 = some m9.cls := hown
  have hl : lv_has ls 2 [(0, .ref h)] := hl
  refine lv_iconst (v := nI 0) hx hb dX0_findBarred_0 (by decide) ?_
  refine lv_istore_n (lv' := [(1, .int (nI 0)), (0, .ref h)]) hx hb dX0_findBarred_1 rfl hl (by decide) rfl (fun ls hl => ?_)
  suffices L1 : ∀ (n i : Nat) (g2 : Nat → Nat), i + n = 7 → (∀ j, j < i → g2 j = brd f br j) → ∀ (H : Heap) (locs : List Loc), va_P (gD G) vwCl [(h, .inr (3, [.ref hl0, .ref qb, .int (nI cnt), .int (nI br)])), (hl0, .inr (4, [.ref qn])), (qn, .inl (G.2.2.1 0, 7, .inl (nA f))), (qb, .inl (G.2.2.1 0, 7, .inl (nA g2)))] H → va_D A [(h, .inr (3, [.ref hl0, .ref qb, .int (nI cnt), .int (nI br)])), (hl0, .inr (4, [.ref qn])), (qn, .inl (G.2.2.1 0, 7, .inl (nA f))), (qb, .inl (G.2.2.1 0, 7, .inl (nA g2)))] → va_S A s.heap H locs → ∀ ls : Array Slot, lv_has ls 2 [(0, .ref h), (1, .int (nI i))] → W P9 l e9 rm_c_Kin_findBarred s m9 args below meth c9 H locs 0 0 Q (F0 m9 2 ls []) by
    exact L1 _ 0 g (Nat.add_sub_cancel' (by omega)) (fun j hj => absurd hj (Nat.not_lt_zero j)) _ _ (hP.sub [0, 1, 2, 3] rfl) (hD.sub [0, 1, 2, 3] (by decide) rfl) hS _ (lv_sub hl [1, 0] rfl)
  intro n
  induction n with
  | zero =>
    intro i g2 hi hg H locs hP hD hS ls hl
    refine lv_iload_n hx hb dX0_findBarred_2 rfl (lv_at hl 1 rfl) ?_
    refine lv_aload_n hx hb dX0_findBarred_3 rfl (lv_at hl 0 rfl) ?_
    refine va_get (D := gD G) (ci := 3) (v := .ref qb) (C := RX0) (T := TX0) (N := 4) hx hb hts (by decide +kernel) hown hK hP 0 rfl rfl 1 (by decide) (hts (.fieldLink RX0 18 "Degreewall$Kinship" "barred" "[I") (by decide +kernel)) (fun _ h9 => h9) rfl dX0_findBarred_4 ?_
    refine va_alen (v := nI 7) hx hb hK hP 3 0 rfl rfl rfl dX0_findBarred_7 ?_
    refine gN_ge (tgt := 41) hx hb dX0_findBarred_8 (by decide) (by omega) (by decide) (fun c2 => ?_) (fun c2 => absurd c2 (by omega))
    exact gVret (hQ := hQ) hx hb hr hlocks hP hD hS g2 (fun j hj => hg j (by omega)) (by rfl) [0, 1, 2, 3] (by decide) (by rfl) (Nat.le_of_ble_eq_true rfl) (Nat.le_of_ble_eq_true rfl) dX0_findBarred_41
  | succ n ih =>
    intro i g2 hi hg H locs hP hD hS ls hl
    refine lv_iload_n hx hb dX0_findBarred_2 rfl (lv_at hl 1 rfl) ?_
    refine lv_aload_n hx hb dX0_findBarred_3 rfl (lv_at hl 0 rfl) ?_
    refine va_get (D := gD G) (ci := 3) (v := .ref qb) (C := RX0) (T := TX0) (N := 4) hx hb hts (by decide +kernel) hown hK hP 0 rfl rfl 1 (by decide) (hts (.fieldLink RX0 18 "Degreewall$Kinship" "barred" "[I") (by decide +kernel)) (fun _ h9 => h9) rfl dX0_findBarred_4 ?_
    refine va_alen (v := nI 7) hx hb hK hP 3 0 rfl rfl rfl dX0_findBarred_7 ?_
    refine gN_ge (tgt := 41) hx hb dX0_findBarred_8 (by decide) (by omega) (by decide) (fun c3 => absurd c3 (by omega)) (fun c3 => ?_)
    refine lv_aload_n hx hb dX0_findBarred_11 rfl (lv_at hl 0 rfl) ?_
    refine va_get (D := gD G) (ci := 3) (v := .ref qb) (C := RX0) (T := TX0) (N := 4) hx hb hts (by decide +kernel) hown hK hP 0 rfl rfl 1 (by decide) (hts (.fieldLink RX0 18 "Degreewall$Kinship" "barred" "[I") (by decide +kernel)) (fun _ h9 => h9) rfl dX0_findBarred_12 ?_
    refine lv_iload_n hx hb dX0_findBarred_15 rfl (lv_at hl 1 rfl) ?_
    refine lv_aload_n hx hb dX0_findBarred_16 rfl (lv_at hl 0 rfl) ?_
    refine va_get (D := gD G) (ci := 3) (v := .ref hl0) (C := RX0) (T := TX0) (N := 4) hx hb hts (by decide +kernel) hown hK hP 0 rfl rfl 0 (by decide) (hts (.fieldLink RX0 12 "Degreewall$Kinship" "kin" "LDegreewall$Links;") (by decide +kernel)) (fun _ h9 => h9) rfl dX0_findBarred_17 ?_
    refine lv_iload_n hx hb dX0_findBarred_20 rfl (lv_at hl 1 rfl) ?_
    refine lv_aload_n hx hb dX0_findBarred_21 rfl (lv_at hl 0 rfl) ?_
    refine va_get (D := gD G) (ci := 3) (v := .int (nI br)) (C := RX0) (T := TX0) (N := 4) hx hb hts (by decide +kernel) hown hK hP 0 rfl rfl 3 (by decide) (hts (.fieldLink RX0 22 "Degreewall$Kinship" "bar" "I") (by decide +kernel)) (fun _ h9 => h9) rfl dX0_findBarred_22 ?_
    refine gCV (ci := 4) (q0 := 0) (C := RX1) (As := [.int (nI i), .int (nI br)]) (rest := [.int (nI i), .ref qb]) (wr := [(h, .inr (3, [.ref hl0, .ref qb, .int (nI cnt), .int (nI br)])), (qb, .inl (G.2.2.1 0, 7, .inl (nA g2)))]) hE (c_Links_reach l G hl0 qn f i br hf (by omega) (by omega)) (cwV 2 hts gX0_findBarred_X1_reach rfl rfl rfl (by decide +kernel) ⟨Nat.le_of_ble_eq_true rfl, Nat.le_of_ble_eq_true rfl⟩) ⟨hx, hb, hml, hown, hts⟩ hK hP hD hS hA [1, 2] [0, 3] rfl rfl (by decide) (by decide) (by decide) rfl rfl rfl hl rfl (Nat.le_of_ble_eq_true rfl) dX0_findBarred_25 ⟨Nat.le_of_ble_eq_true rfl, Nat.le_of_ble_eq_true rfl⟩ (fun u9 H locs hu hP hD hS => ?_)
    have hP : va_P (gD G) vwCl [(h, .inr (3, [.ref hl0, .ref qb, .int (nI cnt), .int (nI br)])), (qb, .inl (G.2.2.1 0, 7, .inl (nA g2))), (hl0, .inr (4, [.ref qn])), (qn, .inl (G.2.2.1 0, 7, .inl (nA f)))] H := hP
    have hD : va_D A [(h, .inr (3, [.ref hl0, .ref qb, .int (nI cnt), .int (nI br)])), (qb, .inl (G.2.2.1 0, 7, .inl (nA g2))), (hl0, .inr (4, [.ref qn])), (qn, .inl (G.2.2.1 0, 7, .inl (nA f)))] := hD
    refine W.eq (g2 := F0 m9 28 ls [.int (nI (rchN f (2 ^ i) br)), .int (nI i), .ref qb]) rfl ?_
    refine lv_iconst (v := nI 1) hx hb dX0_findBarred_28 (by decide) ?_
    refine lv_iload_n hx hb dX0_findBarred_29 rfl (lv_at hl 1 rfl) ?_
    refine lv_ishl hx hb dX0_findBarred_30 ?_
    refine gTop (y := (nI (2 ^ i))) (n_one_shl (by omega)) ?_
    refine lv_iconst (v := (-1)) hx hb dX0_findBarred_31 (by decide) ?_
    refine lv_ixor hx hb dX0_findBarred_32 ?_
    refine lv_iand hx hb dX0_findBarred_33 ?_
    refine gTop (y := (nI (clr (rchN f (2 ^ i) br) (2 ^ i)))) (n_andnot _ _) ?_
    refine gN_iast hx hb hK hP hD hS 1 0 rfl rfl (by omega) (by decide) dX0_findBarred_34 (fun H locs hP hD hS => ?_)
    have hP : va_P (gD G) vwCl [(h, .inr (3, [.ref hl0, .ref qb, .int (nI cnt), .int (nI br)])), (qb, .inl (G.2.2.1 0, 7, .inl (nA (va_up g2 i (clr (rchN f (2 ^ i) br) (2 ^ i)))))), (hl0, .inr (4, [.ref qn])), (qn, .inl (G.2.2.1 0, 7, .inl (nA f)))] H := hP
    have hD : va_D A [(h, .inr (3, [.ref hl0, .ref qb, .int (nI cnt), .int (nI br)])), (qb, .inl (G.2.2.1 0, 7, .inl (nA (va_up g2 i (clr (rchN f (2 ^ i) br) (2 ^ i)))))), (hl0, .inr (4, [.ref qn])), (qn, .inl (G.2.2.1 0, 7, .inl (nA f)))] := hD
    refine lv_iinc (lv' := [(1, .int (nI (i + 1))), (0, .ref h)]) hx hb dX0_findBarred_35 hl (k := 1) rfl (n_inc _) (by decide) rfl (fun ls hl => ?_)
    refine lv_goto (tgt := 2) hx hb dX0_findBarred_38 (by decide) ?_
    exact ih (i + 1) (va_up g2 i (clr (rchN f (2 ^ i) br) (2 ^ i))) (by omega) (fun j hj => by by_cases e : j = i; (rw [e, va_up_self]; rfl); (rw [va_up_ne _ _ e]; exact hg j (by omega))) _ _ (hP.sub [0, 2, 3, 1] rfl) (hD.sub [0, 2, 3, 1] (by decide) rfl) hS _ (lv_sub hl [1, 0] rfl)

def rm_c_Kin_tellKin : Room := { frames := 4, cells := 0, slots := 0, locals := 89 }
set_option maxHeartbeats 4000000 in
set_option maxRecDepth 100000 in
/-- tellKin -/
theorem c_Kin_tellKin (l : Launch) (G : gG) (h : Nat) (hl0 : Nat) (qn : Nat) (qb : Nat) (f : Nat → Nat) (g : Nat → Nat) (cnt : Nat) (br : Nat) (a : Nat) (b : Nat) (z : Nat) (hf : m7 f) (hbr : br < 2 ^ 31) (ha : a < 7) (hb7 : b < 7) (hz : z < 2 ^ 31) : gMet (S := Nat → Nat) l G yX0_tellKin wsX0_tellKin rm_c_Kin_tellKin [.ref h, .int (nI a), .int (nI b), .int (nI z)] [(h, .inr (3, [.ref hl0, .ref qb, .int (nI cnt), .int (nI br)])), (hl0, .inr (4, [.ref qn])), (qn, .inl (G.2.2.1 0, 7, .inl (nA f))), (qb, .inl (G.2.2.1 0, 7, .inl (nA g)))] (fun g2 => isB (kinF z f a b) br g2) (fun _ => none) (fun g2 => [(h, .inr (3, [.ref hl0, .ref qb, .int (nI cnt), .int (nI br)])), (hl0, .inr (4, [.ref qn])), (qn, .inl (G.2.2.1 0, 7, .inl (nA (kinF z f a b)))), (qb, .inl (G.2.2.1 0, 7, .inl (nA g2)))]) := by
  refine gOf (maxL := 4) (ret := none) (cc := cX0_tellKin) (by decide) rfl (Nat.le_of_ble_eq_true rfl) ?_
  intro P9 e9 s m9 args below meth c9 A ls H locs Q hQ hx hb hml hr hown hts hlocks hin hK hP hD hS hA hE hl
  have hown : s.vm.findClass RX0 = some m9.cls := hown
  have hl : lv_has ls 4 [(0, .ref h), (1, .int (nI a)), (2, .int (nI b)), (3, .int (nI z))] := hl
  refine lv_iload_n hx hb dX0_tellKin_0 rfl (lv_at hl 3 rfl) ?_
  refine gN_eq0 (tgt := 16) hx hb dX0_tellKin_1 (by decide) (by omega) (fun c1 => ?_) (fun c1 => ?_)
  · refine lv_aload_n hx hb dX0_tellKin_16 rfl (lv_at hl 0 rfl) ?_
    refine va_get (D := gD G) (ci := 3) (v := .ref hl0) (C := RX0) (T := TX0) (N := 4) hx hb hts (by decide +kernel) hown hK hP 0 rfl rfl 0 (by decide) (hts (.fieldLink RX0 12 "Degreewall$Kinship" "kin" "LDegreewall$Links;") (by decide +kernel)) (fun _ h9 => h9) rfl dX0_tellKin_17 ?_
    refine lv_iload_n hx hb dX0_tellKin_20 rfl (lv_at hl 1 rfl) ?_
    refine lv_iload_n hx hb dX0_tellKin_21 rfl (lv_at hl 2 rfl) ?_
    refine gCV (ci := 4) (q0 := 0) (C := RX1) (As := [.int (nI a), .int (nI b)]) (rest := []) (wr := [(h, .inr (3, [.ref hl0, .ref qb, .int (nI cnt), .int (nI br)])), (qb, .inl (G.2.2.1 0, 7, .inl (nA g)))]) hE (c_Links_cut l G hl0 qn f a b (by omega) (by omega)) (cwV 2 hts gX0_tellKin_X1_cut rfl rfl rfl (by decide +kernel) ⟨Nat.le_of_ble_eq_true rfl, Nat.le_of_ble_eq_true rfl⟩) ⟨hx, hb, hml, hown, hts⟩ hK hP hD hS hA [1, 2] [0, 3] rfl rfl (by decide) (by decide) (by decide) rfl rfl rfl hl rfl (Nat.le_of_ble_eq_true rfl) dX0_tellKin_22 ⟨Nat.le_of_ble_eq_true rfl, Nat.le_of_ble_eq_true rfl⟩ (fun u9 H locs hu hP hD hS => ?_)
    have hP : va_P (gD G) vwCl [(h, .inr (3, [.ref hl0, .ref qb, .int (nI cnt), .int (nI br)])), (qb, .inl (G.2.2.1 0, 7, .inl (nA g))), (hl0, .inr (4, [.ref qn])), (qn, .inl (G.2.2.1 0, 7, .inl (nA (unl f a b))))] H := hP
    have hD : va_D A [(h, .inr (3, [.ref hl0, .ref qb, .int (nI cnt), .int (nI br)])), (qb, .inl (G.2.2.1 0, 7, .inl (nA g))), (hl0, .inr (4, [.ref qn])), (qn, .inl (G.2.2.1 0, 7, .inl (nA (unl f a b))))] := hD
    refine W.eq (g2 := F0 m9 25 ls []) rfl ?_
    have ek : kinF z f a b = unl f a b := if_pos c1
    rw [← ek] at hP hD
    refine lv_aload_n hx hb dX0_tellKin_25 rfl (lv_at hl 0 rfl) ?_
    refine gCV (ci := 3) (q0 := 0) (C := RX0) (As := []) (rest := []) (wr := []) hE (c_Kin_findBarred l G h hl0 qn qb (kinF z f a b) g cnt br (m7_kinF hf ha hb7) (by omega)) (cwV 0 hts gX0_tellKin_X0_findBarred rfl rfl rfl (by decide +kernel) ⟨Nat.le_of_ble_eq_true rfl, Nat.le_of_ble_eq_true rfl⟩) ⟨hx, hb, hml, hown, hts⟩ hK hP hD hS hA [0, 2, 3, 1] [] rfl rfl (by decide) (by decide) (by decide) rfl rfl rfl hl rfl (Nat.le_of_ble_eq_true rfl) dX0_tellKin_26 ⟨Nat.le_of_ble_eq_true rfl, Nat.le_of_ble_eq_true rfl⟩ (fun g2 H locs hu hP hD hS => ?_)
    have hg2 : isB (kinF z f a b) br g2 := hu
    have hP : va_P (gD G) vwCl [(h, .inr (3, [.ref hl0, .ref qb, .int (nI cnt), .int (nI br)])), (hl0, .inr (4, [.ref qn])), (qn, .inl (G.2.2.1 0, 7, .inl (nA (kinF z f a b)))), (qb, .inl (G.2.2.1 0, 7, .inl (nA g2)))] H := hP
    have hD : va_D A [(h, .inr (3, [.ref hl0, .ref qb, .int (nI cnt), .int (nI br)])), (hl0, .inr (4, [.ref qn])), (qn, .inl (G.2.2.1 0, 7, .inl (nA (kinF z f a b)))), (qb, .inl (G.2.2.1 0, 7, .inl (nA g2)))] := hD
    refine W.eq (g2 := F0 m9 29 ls []) rfl ?_
    exact gVret (hQ := hQ) hx hb hr hlocks hP hD hS g2 hg2 (by rfl) [0, 1, 2, 3] (by decide) (by rfl) (Nat.le_of_ble_eq_true rfl) (Nat.le_of_ble_eq_true rfl) dX0_tellKin_29
  · refine lv_aload_n hx hb dX0_tellKin_4 rfl (lv_at hl 0 rfl) ?_
    refine va_get (D := gD G) (ci := 3) (v := .ref hl0) (C := RX0) (T := TX0) (N := 4) hx hb hts (by decide +kernel) hown hK hP 0 rfl rfl 0 (by decide) (hts (.fieldLink RX0 12 "Degreewall$Kinship" "kin" "LDegreewall$Links;") (by decide +kernel)) (fun _ h9 => h9) rfl dX0_tellKin_5 ?_
    refine lv_iload_n hx hb dX0_tellKin_8 rfl (lv_at hl 1 rfl) ?_
    refine lv_iload_n hx hb dX0_tellKin_9 rfl (lv_at hl 2 rfl) ?_
    refine gCV (ci := 4) (q0 := 0) (C := RX1) (As := [.int (nI a), .int (nI b)]) (rest := []) (wr := [(h, .inr (3, [.ref hl0, .ref qb, .int (nI cnt), .int (nI br)])), (qb, .inl (G.2.2.1 0, 7, .inl (nA g)))]) hE (c_Links_link l G hl0 qn f a b (by omega) (by omega)) (cwV 2 hts gX0_tellKin_X1_link rfl rfl rfl (by decide +kernel) ⟨Nat.le_of_ble_eq_true rfl, Nat.le_of_ble_eq_true rfl⟩) ⟨hx, hb, hml, hown, hts⟩ hK hP hD hS hA [1, 2] [0, 3] rfl rfl (by decide) (by decide) (by decide) rfl rfl rfl hl rfl (Nat.le_of_ble_eq_true rfl) dX0_tellKin_10 ⟨Nat.le_of_ble_eq_true rfl, Nat.le_of_ble_eq_true rfl⟩ (fun u9 H locs hu hP hD hS => ?_)
    have hP : va_P (gD G) vwCl [(h, .inr (3, [.ref hl0, .ref qb, .int (nI cnt), .int (nI br)])), (qb, .inl (G.2.2.1 0, 7, .inl (nA g))), (hl0, .inr (4, [.ref qn])), (qn, .inl (G.2.2.1 0, 7, .inl (nA (lnk f a b))))] H := hP
    have hD : va_D A [(h, .inr (3, [.ref hl0, .ref qb, .int (nI cnt), .int (nI br)])), (qb, .inl (G.2.2.1 0, 7, .inl (nA g))), (hl0, .inr (4, [.ref qn])), (qn, .inl (G.2.2.1 0, 7, .inl (nA (lnk f a b))))] := hD
    refine W.eq (g2 := F0 m9 13 ls []) rfl ?_
    refine lv_goto (tgt := 25) hx hb dX0_tellKin_13 (by decide) ?_
    have ek : kinF z f a b = lnk f a b := if_neg c1
    rw [← ek] at hP hD
    refine lv_aload_n hx hb dX0_tellKin_25 rfl (lv_at hl 0 rfl) ?_
    refine gCV (ci := 3) (q0 := 0) (C := RX0) (As := []) (rest := []) (wr := []) hE (c_Kin_findBarred l G h hl0 qn qb (kinF z f a b) g cnt br (m7_kinF hf ha hb7) (by omega)) (cwV 0 hts gX0_tellKin_X0_findBarred rfl rfl rfl (by decide +kernel) ⟨Nat.le_of_ble_eq_true rfl, Nat.le_of_ble_eq_true rfl⟩) ⟨hx, hb, hml, hown, hts⟩ hK hP hD hS hA [0, 2, 3, 1] [] rfl rfl (by decide) (by decide) (by decide) rfl rfl rfl hl rfl (Nat.le_of_ble_eq_true rfl) dX0_tellKin_26 ⟨Nat.le_of_ble_eq_true rfl, Nat.le_of_ble_eq_true rfl⟩ (fun g3 H locs hu hP hD hS => ?_)
    have hg3 : isB (kinF z f a b) br g3 := hu
    have hP : va_P (gD G) vwCl [(h, .inr (3, [.ref hl0, .ref qb, .int (nI cnt), .int (nI br)])), (hl0, .inr (4, [.ref qn])), (qn, .inl (G.2.2.1 0, 7, .inl (nA (kinF z f a b)))), (qb, .inl (G.2.2.1 0, 7, .inl (nA g3)))] H := hP
    have hD : va_D A [(h, .inr (3, [.ref hl0, .ref qb, .int (nI cnt), .int (nI br)])), (hl0, .inr (4, [.ref qn])), (qn, .inl (G.2.2.1 0, 7, .inl (nA (kinF z f a b)))), (qb, .inl (G.2.2.1 0, 7, .inl (nA g3)))] := hD
    refine W.eq (g2 := F0 m9 29 ls []) rfl ?_
    exact gVret (hQ := hQ) hx hb hr hlocks hP hD hS g3 hg3 (by rfl) [0, 1, 2, 3] (by decide) (by rfl) (Nat.le_of_ble_eq_true rfl) (Nat.le_of_ble_eq_true rfl) dX0_tellKin_29

def rm_c_Kin_tellBar : Room := { frames := 4, cells := 0, slots := 0, locals := 89 }
set_option maxHeartbeats 4000000 in
set_option maxRecDepth 100000 in
/-- tellBar -/
theorem c_Kin_tellBar (l : Launch) (G : gG) (h : Nat) (hl0 : Nat) (qn : Nat) (qb : Nat) (f : Nat → Nat) (g : Nat → Nat) (cnt : Nat) (br : Nat) (b2 : Nat) (hf : m7 f) (hb2 : b2 < 2 ^ 31) : gMet (S := Nat → Nat) l G yX0_tellBar wsX0_tellBar rm_c_Kin_tellBar [.ref h, .int (nI b2)] [(h, .inr (3, [.ref hl0, .ref qb, .int (nI cnt), .int (nI br)])), (hl0, .inr (4, [.ref qn])), (qn, .inl (G.2.2.1 0, 7, .inl (nA f))), (qb, .inl (G.2.2.1 0, 7, .inl (nA g)))] (fun g2 => isB f b2 g2) (fun _ => none) (fun g2 => [(h, .inr (3, [.ref hl0, .ref qb, .int (nI cnt), .int (nI b2)])), (hl0, .inr (4, [.ref qn])), (qn, .inl (G.2.2.1 0, 7, .inl (nA f))), (qb, .inl (G.2.2.1 0, 7, .inl (nA g2)))]) := by
  refine gOf (maxL := 2) (ret := none) (cc := cX0_tellBar) (by decide) rfl (Nat.le_of_ble_eq_true rfl) ?_
  intro P9 e9 s m9 args below meth c9 A ls H locs Q hQ hx hb hml hr hown hts hlocks hin hK hP hD hS hA hE hl
  have hown : s.vm.findClass RX0 = some m9.cls := hown
  have hl : lv_has ls 2 [(0, .ref h), (1, .int (nI b2))] := hl
  refine lv_aload_n hx hb dX0_tellBar_0 rfl (lv_at hl 0 rfl) ?_
  refine lv_iload_n hx hb dX0_tellBar_1 rfl (lv_at hl 1 rfl) ?_
  refine va_put (D := gD G) (ci := 3) (v := .int (nI b2)) (ty := .int) (C := RX0) (T := TX0) (N := 4) hx hb hts (by decide +kernel) tyX0 tyX0_ok nmX0 hown hK hP hD hS 0 rfl rfl 3 (by decide) (hts (.fieldLink RX0 22 "Degreewall$Kinship" "bar" "I") (by decide +kernel)) (fun _ h9 => h9) rfl (by decide +kernel) rfl rfl (Nat.le_of_ble_eq_true rfl) dX0_tellBar_2 (fun H locs hP hD hS => ?_)
  have hP : va_P (gD G) vwCl [(h, .inr (3, [.ref hl0, .ref qb, .int (nI cnt), .int (nI b2)])), (hl0, .inr (4, [.ref qn])), (qn, .inl (G.2.2.1 0, 7, .inl (nA f))), (qb, .inl (G.2.2.1 0, 7, .inl (nA g)))] H := hP
  have hD : va_D A [(h, .inr (3, [.ref hl0, .ref qb, .int (nI cnt), .int (nI b2)])), (hl0, .inr (4, [.ref qn])), (qn, .inl (G.2.2.1 0, 7, .inl (nA f))), (qb, .inl (G.2.2.1 0, 7, .inl (nA g)))] := hD
  refine lv_aload_n hx hb dX0_tellBar_5 rfl (lv_at hl 0 rfl) ?_
  refine gCV (ci := 3) (q0 := 0) (C := RX0) (As := []) (rest := []) (wr := []) hE (c_Kin_findBarred l G h hl0 qn qb f g cnt b2 hf (by omega)) (cwV 0 hts gX0_tellBar_X0_findBarred rfl rfl rfl (by decide +kernel) ⟨Nat.le_of_ble_eq_true rfl, Nat.le_of_ble_eq_true rfl⟩) ⟨hx, hb, hml, hown, hts⟩ hK hP hD hS hA [0, 1, 2, 3] [] rfl rfl (by decide) (by decide) (by decide) rfl rfl rfl hl rfl (Nat.le_of_ble_eq_true rfl) dX0_tellBar_6 ⟨Nat.le_of_ble_eq_true rfl, Nat.le_of_ble_eq_true rfl⟩ (fun g1 H locs hu hP hD hS => ?_)
  have hg1 : isB f b2 g1 := hu
  have hP : va_P (gD G) vwCl [(h, .inr (3, [.ref hl0, .ref qb, .int (nI cnt), .int (nI b2)])), (hl0, .inr (4, [.ref qn])), (qn, .inl (G.2.2.1 0, 7, .inl (nA f))), (qb, .inl (G.2.2.1 0, 7, .inl (nA g1)))] H := hP
  have hD : va_D A [(h, .inr (3, [.ref hl0, .ref qb, .int (nI cnt), .int (nI b2)])), (hl0, .inr (4, [.ref qn])), (qn, .inl (G.2.2.1 0, 7, .inl (nA f))), (qb, .inl (G.2.2.1 0, 7, .inl (nA g1)))] := hD
  refine W.eq (g2 := F0 m9 9 ls []) rfl ?_
  exact gVret (hQ := hQ) hx hb hr hlocks hP hD hS g1 hg1 (by rfl) [0, 1, 2, 3] (by decide) (by rfl) (Nat.le_of_ble_eq_true rfl) (Nat.le_of_ble_eq_true rfl) dX0_tellBar_9

def rm_c_Kin_within : Room := { frames := 0, cells := 0, slots := 0, locals := 0 }
set_option maxHeartbeats 4000000 in
set_option maxRecDepth 100000 in
/-- within(k) -/
theorem c_Kin_within (l : Launch) (G : gG) (h : Nat) (hl0 : Nat) (qn : Nat) (qb : Nat) (f : Nat → Nat) (g : Nat → Nat) (cnt : Nat) (br : Nat) (k : Nat) (hk : k < 7) : gMet (S := Unit) l G yX0_within wsX0_within rm_c_Kin_within [.ref h, .int (nI k)] [(h, .inr (3, [.ref hl0, .ref qb, .int (nI cnt), .int (nI br)])), (hl0, .inr (4, [.ref qn])), (qn, .inl (G.2.2.1 0, 7, .inl (nA f))), (qb, .inl (G.2.2.1 0, 7, .inl (nA g)))] (fun _ => True) (fun _ => some (.int (nI (g k)))) (fun _ => [(h, .inr (3, [.ref hl0, .ref qb, .int (nI cnt), .int (nI br)])), (hl0, .inr (4, [.ref qn])), (qn, .inl (G.2.2.1 0, 7, .inl (nA f))), (qb, .inl (G.2.2.1 0, 7, .inl (nA g)))]) := by
  refine gOf (maxL := 2) (ret := (some .int)) (cc := cX0_within) (by decide) rfl (Nat.le_of_ble_eq_true rfl) ?_
  intro P9 e9 s m9 args below meth c9 A ls H locs Q hQ hx hb hml hr hown hts hlocks hin hK hP hD hS hA hE hl
  have hown : s.vm.findClass RX0 = some m9.cls := hown
  have hl : lv_has ls 2 [(0, .ref h), (1, .int (nI k))] := hl
  refine lv_aload_n hx hb dX0_within_0 rfl (lv_at hl 0 rfl) ?_
  refine va_get (D := gD G) (ci := 3) (v := .ref qb) (C := RX0) (T := TX0) (N := 4) hx hb hts (by decide +kernel) hown hK hP 0 rfl rfl 1 (by decide) (hts (.fieldLink RX0 18 "Degreewall$Kinship" "barred" "[I") (by decide +kernel)) (fun _ h9 => h9) rfl dX0_within_1 ?_
  refine lv_iload_n hx hb dX0_within_4 rfl (lv_at hl 1 rfl) ?_
  refine gN_iald hx hb hK hP 3 0 rfl rfl (by omega) (by decide) dX0_within_5 ?_
  exact gIret (hQ := hQ) hx hb hr hlocks hP hD hS () trivial (by rfl) [0, 1, 2, 3] (by decide) (by rfl) (Nat.le_of_ble_eq_true rfl) (Nat.le_of_ble_eq_true rfl) dX0_within_6

def rm_c_Kin_firstPairWithin : Room := { frames := 1, cells := 0, slots := 0, locals := 21 }
set_option maxHeartbeats 4000000 in
set_option maxRecDepth 100000 in
/-- firstPairWithin(line) -/
theorem c_Kin_firstPairWithin (l : Launch) (G : gG) (h : Nat) (hl0 : Nat) (qn : Nat) (qb : Nat) (f : Nat → Nat) (g : Nat → Nat) (cnt : Nat) (br : Nat) (line : Nat) (hg : m7 g) (hc : cnt ≤ 7) (hline : line < 128) : gMet (S := Int32) l G yX0_firstPairWithin wsX0_firstPairWithin rm_c_Kin_firstPairWithin [.ref h, .int (nI line)] [(h, .inr (3, [.ref hl0, .ref qb, .int (nI cnt), .int (nI br)])), (hl0, .inr (4, [.ref qn])), (qn, .inl (G.2.2.1 0, 7, .inl (nA f))), (qb, .inl (G.2.2.1 0, 7, .inl (nA g)))] (pairR g line cnt) (fun r => some (.int r)) (fun _ => [(h, .inr (3, [.ref hl0, .ref qb, .int (nI cnt), .int (nI br)])), (hl0, .inr (4, [.ref qn])), (qn, .inl (G.2.2.1 0, 7, .inl (nA f))), (qb, .inl (G.2.2.1 0, 7, .inl (nA g)))]) := by
  refine gOf (maxL := 5) (ret := (some .int)) (cc := cX0_firstPairWithin) (by decide) rfl (Nat.le_of_ble_eq_true rfl) ?_
  intro P9 e9 s m9 args below meth c9 A ls H locs Q hQ hx hb hml hr hown hts hlocks hin hK hP hD hS hA hE hl
  have hown : s.vm.findClass RX0 = some m9.cls := hown
  have hl : lv_has ls 5 [(0, .ref h), (1, .int (nI line))] := hl
  have hc2 : cnt < 2 ^ 31 := by omega
  refine lv_iconst (v := nI 0) hx hb dX0_firstPairWithin_0 (by decide) ?_
  refine lv_istore_n (lv' := [(2, .int (nI 0)), (0, .ref h), (1, .int (nI line))]) hx hb dX0_firstPairWithin_1 rfl hl (by decide) rfl (fun ls hl => ?_)
  suffices L1 : ∀ (n i : Nat), i + n = cnt → (∀ a b, a < i → a < b → b < cnt → pw g line a b = false) → ∀ (H : Heap) (locs : List Loc), va_P (gD G) vwCl [(h, .inr (3, [.ref hl0, .ref qb, .int (nI cnt), .int (nI br)])), (hl0, .inr (4, [.ref qn])), (qn, .inl (G.2.2.1 0, 7, .inl (nA f))), (qb, .inl (G.2.2.1 0, 7, .inl (nA g)))] H → va_D A [(h, .inr (3, [.ref hl0, .ref qb, .int (nI cnt), .int (nI br)])), (hl0, .inr (4, [.ref qn])), (qn, .inl (G.2.2.1 0, 7, .inl (nA f))), (qb, .inl (G.2.2.1 0, 7, .inl (nA g)))] → va_S A s.heap H locs → ∀ ls : Array Slot, lv_has ls 5 [(0, .ref h), (1, .int (nI line)), (2, .int (nI i))] → W P9 l e9 rm_c_Kin_firstPairWithin s m9 args below meth c9 H locs 0 0 Q (F0 m9 2 ls []) by
    exact L1 _ 0  (Nat.add_sub_cancel' (by omega)) (fun a b h => absurd h (Nat.not_lt_zero a)) _ _ (hP.sub [0, 1, 2, 3] rfl) (hD.sub [0, 1, 2, 3] (by decide) rfl) hS _ (lv_sub hl [1, 2, 0] rfl)
  intro n
  induction n with
  | zero =>
    intro i hi hno H locs hP hD hS ls hl
    refine lv_iload_n hx hb dX0_firstPairWithin_2 rfl (lv_at hl 2 rfl) ?_
    refine lv_aload_n hx hb dX0_firstPairWithin_3 rfl (lv_at hl 0 rfl) ?_
    refine va_get (D := gD G) (ci := 3) (v := .int (nI cnt)) (C := RX0) (T := TX0) (N := 4) hx hb hts (by decide +kernel) hown hK hP 0 rfl rfl 2 (by decide) (hts (.fieldLink RX0 26 "Degreewall$Kinship" "count" "I") (by decide +kernel)) (fun _ h9 => h9) rfl dX0_firstPairWithin_4 ?_
    refine gN_ge (tgt := 74) hx hb dX0_firstPairWithin_7 (by decide) (by omega) (by omega) (fun c2 => ?_) (fun c2 => absurd c2 (by omega))
    refine lv_iconst (v := (-1)) hx hb dX0_firstPairWithin_74 (by decide) ?_
    exact gIret (hQ := hQ) hx hb hr hlocks hP hD hS (-1) (Or.inl ⟨rfl, fun a b h1 h2 => hno a b (by omega) h1 h2⟩) (by rfl) [0, 1, 2, 3] (by decide) (by rfl) (Nat.le_of_ble_eq_true rfl) (Nat.le_of_ble_eq_true rfl) dX0_firstPairWithin_75
  | succ n ih =>
    intro i hi hno H locs hP hD hS ls hl
    refine lv_iload_n hx hb dX0_firstPairWithin_2 rfl (lv_at hl 2 rfl) ?_
    refine lv_aload_n hx hb dX0_firstPairWithin_3 rfl (lv_at hl 0 rfl) ?_
    refine va_get (D := gD G) (ci := 3) (v := .int (nI cnt)) (C := RX0) (T := TX0) (N := 4) hx hb hts (by decide +kernel) hown hK hP 0 rfl rfl 2 (by decide) (hts (.fieldLink RX0 26 "Degreewall$Kinship" "count" "I") (by decide +kernel)) (fun _ h9 => h9) rfl dX0_firstPairWithin_4 ?_
    refine gN_ge (tgt := 74) hx hb dX0_firstPairWithin_7 (by decide) (by omega) (by omega) (fun c3 => absurd c3 (by omega)) (fun c3 => ?_)
    refine lv_iload_n hx hb dX0_firstPairWithin_10 rfl (lv_at hl 1 rfl) ?_
    refine lv_iload_n hx hb dX0_firstPairWithin_11 rfl (lv_at hl 2 rfl) ?_
    have hgi := hg i (by omega)
    have hc2 : cnt < 2 ^ 31 := by omega
    refine gCSN (As := [.int (nI line), .int (nI i)]) (rest := []) (wr := [(h, .inr (3, [.ref hl0, .ref qb, .int (nI cnt), .int (nI br)])), (hl0, .inr (4, [.ref qn])), (qn, .inl (G.2.2.1 0, 7, .inl (nA f))), (qb, .inl (G.2.2.1 0, 7, .inl (nA g)))]) hE (c_contains l G line i (by omega) (by omega)) ⟨va_cnB 2 hts ggX0_firstPairWithin_X6_contains rfl rfl rfl (hE.nest 5 rfl) (hts (.initialized RX6) (by decide +kernel)) (by decide +kernel) ⟨Nat.le_of_ble_eq_true rfl, Nat.le_of_ble_eq_true rfl⟩, (hts (.static yX6_contains) (by decide +kernel)), trivial⟩ ⟨hx, hb, hml, hown, hts⟩ hK hP hD hS hA [] [0, 1, 2, 3] rfl rfl (by decide) (by decide) (by decide) rfl hl rfl (Nat.le_of_ble_eq_true rfl) dX0_firstPairWithin_12 ⟨Nat.le_of_ble_eq_true rfl, Nat.le_of_ble_eq_true rfl⟩ (fun u9 H locs hu hP hD hS => ?_)
    have hP : va_P (gD G) vwCl [(h, .inr (3, [.ref hl0, .ref qb, .int (nI cnt), .int (nI br)])), (hl0, .inr (4, [.ref qn])), (qn, .inl (G.2.2.1 0, 7, .inl (nA f))), (qb, .inl (G.2.2.1 0, 7, .inl (nA g)))] H := hP
    have hD : va_D A [(h, .inr (3, [.ref hl0, .ref qb, .int (nI cnt), .int (nI br)])), (hl0, .inr (4, [.ref qn])), (qn, .inl (G.2.2.1 0, 7, .inl (nA f))), (qb, .inl (G.2.2.1 0, 7, .inl (nA g)))] := hD
    refine W.eq (g2 := F0 m9 15 ls [.int (nI ((line.testBit i).toNat))]) rfl ?_
    have hb1 : (line.testBit i).toNat < 2 ^ 31 := Nat.lt_of_le_of_lt (Bool.toNat_le _) (by decide)
    suffices J4 : ∀ (cl : Nat) , (∀ j, cl.testBit j = pw g line i j) → ∀ (H : Heap) (locs : List Loc), va_P (gD G) vwCl [(h, .inr (3, [.ref hl0, .ref qb, .int (nI cnt), .int (nI br)])), (hl0, .inr (4, [.ref qn])), (qn, .inl (G.2.2.1 0, 7, .inl (nA f))), (qb, .inl (G.2.2.1 0, 7, .inl (nA g)))] H → va_D A [(h, .inr (3, [.ref hl0, .ref qb, .int (nI cnt), .int (nI br)])), (hl0, .inr (4, [.ref qn])), (qn, .inl (G.2.2.1 0, 7, .inl (nA f))), (qb, .inl (G.2.2.1 0, 7, .inl (nA g)))] → va_S A s.heap H locs → ∀ ls : Array Slot, lv_has ls 5 [(0, .ref h), (1, .int (nI line)), (2, .int (nI i))] → W P9 l e9 rm_c_Kin_firstPairWithin s m9 args below meth c9 H locs 0 0 Q (F0 m9 30 ls [.int (nI cl)]) by
      refine gN_eq0 (tgt := 29) hx hb dX0_firstPairWithin_15 (by decide) (by omega) (fun c5 => ?_) (fun c5 => ?_)
      · refine lv_iconst (v := nI 0) hx hb dX0_firstPairWithin_29 (by decide) ?_
        exact J4 0 (fun j => by unfold pw; rw [tb_f c5, Bool.false_and, Nat.zero_testBit]) _ _ (hP.sub [0, 1, 2, 3] rfl) (hD.sub [0, 1, 2, 3] (by decide) rfl) hS _ (lv_sub hl [0, 1, 2] rfl)
      · refine lv_iload_n hx hb dX0_firstPairWithin_18 rfl (lv_at hl 1 rfl) ?_
        refine lv_aload_n hx hb dX0_firstPairWithin_19 rfl (lv_at hl 0 rfl) ?_
        refine va_get (D := gD G) (ci := 3) (v := .ref qb) (C := RX0) (T := TX0) (N := 4) hx hb hts (by decide +kernel) hown hK hP 0 rfl rfl 1 (by decide) (hts (.fieldLink RX0 18 "Degreewall$Kinship" "barred" "[I") (by decide +kernel)) (fun _ h9 => h9) rfl dX0_firstPairWithin_20 ?_
        refine lv_iload_n hx hb dX0_firstPairWithin_23 rfl (lv_at hl 2 rfl) ?_
        refine gN_iald hx hb hK hP 3 0 rfl rfl (by omega) (by decide) dX0_firstPairWithin_24 ?_
        refine lv_iand hx hb dX0_firstPairWithin_25 ?_
        refine gTop (y := (nI (line &&& (g i)))) (n_and _ _) ?_
        refine lv_goto (tgt := 30) hx hb dX0_firstPairWithin_26 (by decide) ?_
        exact J4 (line &&& (g i)) (fun j => by unfold pw; rw [Nat.testBit_and, tb_t c5, Bool.true_and]) _ _ (hP.sub [0, 1, 2, 3] rfl) (hD.sub [0, 1, 2, 3] (by decide) rfl) hS _ (lv_sub hl [0, 1, 2] rfl)
    intro cl hcl H locs hP hD hS ls hl
    refine lv_istore_n (lv' := [(3, .int (nI cl)), (0, .ref h), (1, .int (nI line)), (2, .int (nI i))]) hx hb dX0_firstPairWithin_30 rfl hl (by decide) rfl (fun ls hl => ?_)
    refine lv_iload_n hx hb dX0_firstPairWithin_31 rfl (lv_at hl 3 rfl) ?_
    refine lv_iconst (v := nI 1) hx hb dX0_firstPairWithin_32 (by decide) ?_
    refine lv_iadd hx hb dX0_firstPairWithin_33 ?_
    refine gTop (y := (nI (i + 1))) (nI_add _ _) ?_
    refine lv_istore (lv' := [(4, .int (nI (i + 1))), (3, .int (nI cl)), (0, .ref h), (1, .int (nI line)), (2, .int (nI i))]) hx hb dX0_firstPairWithin_34 hl (by decide) rfl (fun ls hl => ?_)
    suffices L6 : ∀ (n2 j : Nat), j + n2 = cnt → (i < j) → (∀ b, i < b → b < j → cl.testBit b = false) → ∀ (H : Heap) (locs : List Loc), va_P (gD G) vwCl [(h, .inr (3, [.ref hl0, .ref qb, .int (nI cnt), .int (nI br)])), (hl0, .inr (4, [.ref qn])), (qn, .inl (G.2.2.1 0, 7, .inl (nA f))), (qb, .inl (G.2.2.1 0, 7, .inl (nA g)))] H → va_D A [(h, .inr (3, [.ref hl0, .ref qb, .int (nI cnt), .int (nI br)])), (hl0, .inr (4, [.ref qn])), (qn, .inl (G.2.2.1 0, 7, .inl (nA f))), (qb, .inl (G.2.2.1 0, 7, .inl (nA g)))] → va_S A s.heap H locs → ∀ ls : Array Slot, lv_has ls 5 [(0, .ref h), (1, .int (nI line)), (2, .int (nI i)), (3, .int (nI cl)), (4, .int (nI j))] → W P9 l e9 rm_c_Kin_firstPairWithin s m9 args below meth c9 H locs 0 0 Q (F0 m9 36 ls []) by
      exact L6 _ (i + 1)  (Nat.add_sub_cancel' (by omega)) (by omega) (fun b h1 h2 => absurd h1 (by omega)) _ _ (hP.sub [0, 1, 2, 3] rfl) (hD.sub [0, 1, 2, 3] (by decide) rfl) hS _ (lv_sub hl [2, 3, 4, 1, 0] rfl)
    intro n2
    induction n2 with
    | zero =>
      intro j hi2 hij hn2 H locs hP hD hS ls hl
      refine lv_iload hx hb dX0_firstPairWithin_36 (lv_at hl 4 rfl) ?_
      refine lv_aload_n hx hb dX0_firstPairWithin_38 rfl (lv_at hl 0 rfl) ?_
      refine va_get (D := gD G) (ci := 3) (v := .int (nI cnt)) (C := RX0) (T := TX0) (N := 4) hx hb hts (by decide +kernel) hown hK hP 0 rfl rfl 2 (by decide) (hts (.fieldLink RX0 26 "Degreewall$Kinship" "count" "I") (by decide +kernel)) (fun _ h9 => h9) rfl dX0_firstPairWithin_39 ?_
      refine gN_ge (tgt := 68) hx hb dX0_firstPairWithin_42 (by decide) (by omega) (by omega) (fun c7 => ?_) (fun c7 => absurd c7 (by omega))
      refine lv_iinc (lv' := [(2, .int (nI (i + 1))), (0, .ref h), (1, .int (nI line)), (3, .int (nI cl)), (4, .int (nI j))]) hx hb dX0_firstPairWithin_68 hl (k := 2) rfl (n_inc _) (by decide) rfl (fun ls hl => ?_)
      refine lv_goto (tgt := 2) hx hb dX0_firstPairWithin_71 (by decide) ?_
      exact ih (i + 1)  (by omega) (fun a b h1 h2 h3 => by by_cases e : a = i; (subst e; rw [← hcl b]; exact hn2 b h2 (by omega)); (exact hno a b (by omega) h2 h3)) _ _ (hP.sub [0, 1, 2, 3] rfl) (hD.sub [0, 1, 2, 3] (by decide) rfl) hS _ (lv_sub hl [1, 2, 0] rfl)
    | succ n2 ih2 =>
      intro j hi2 hij hn2 H locs hP hD hS ls hl
      refine lv_iload hx hb dX0_firstPairWithin_36 (lv_at hl 4 rfl) ?_
      refine lv_aload_n hx hb dX0_firstPairWithin_38 rfl (lv_at hl 0 rfl) ?_
      refine va_get (D := gD G) (ci := 3) (v := .int (nI cnt)) (C := RX0) (T := TX0) (N := 4) hx hb hts (by decide +kernel) hown hK hP 0 rfl rfl 2 (by decide) (hts (.fieldLink RX0 26 "Degreewall$Kinship" "count" "I") (by decide +kernel)) (fun _ h9 => h9) rfl dX0_firstPairWithin_39 ?_
      refine gN_ge (tgt := 68) hx hb dX0_firstPairWithin_42 (by decide) (by omega) (by omega) (fun c8 => absurd c8 (by omega)) (fun c8 => ?_)
      have hcl7 : cl < 2 ^ 31 := Nat.lt_of_lt_of_le (Nat.lt_pow_two_of_testBit cl (fun k hk => by rw [hcl]; unfold pw; rw [Nat.testBit_lt_two_pow (x := line) (i := k) (Nat.lt_of_lt_of_le hline (Nat.pow_le_pow_right (n := 2) (by decide) hk)), Bool.false_and, Bool.and_false])) (by decide : 2 ^ 7 ≤ 2 ^ 31)
      refine lv_iload_n hx hb dX0_firstPairWithin_45 rfl (lv_at hl 3 rfl) ?_
      refine lv_iload hx hb dX0_firstPairWithin_46 (lv_at hl 4 rfl) ?_
      refine gCSN (As := [.int (nI cl), .int (nI j)]) (rest := []) (wr := [(h, .inr (3, [.ref hl0, .ref qb, .int (nI cnt), .int (nI br)])), (hl0, .inr (4, [.ref qn])), (qn, .inl (G.2.2.1 0, 7, .inl (nA f))), (qb, .inl (G.2.2.1 0, 7, .inl (nA g)))]) hE (c_contains l G cl j (by omega) (by omega)) ⟨va_cnB 2 hts ggX0_firstPairWithin_X6_contains rfl rfl rfl (hE.nest 5 rfl) (hts (.initialized RX6) (by decide +kernel)) (by decide +kernel) ⟨Nat.le_of_ble_eq_true rfl, Nat.le_of_ble_eq_true rfl⟩, (hts (.static yX6_contains) (by decide +kernel)), trivial⟩ ⟨hx, hb, hml, hown, hts⟩ hK hP hD hS hA [] [0, 1, 2, 3] rfl rfl (by decide) (by decide) (by decide) rfl hl rfl (Nat.le_of_ble_eq_true rfl) dX0_firstPairWithin_48 ⟨Nat.le_of_ble_eq_true rfl, Nat.le_of_ble_eq_true rfl⟩ (fun u9 H locs hu hP hD hS => ?_)
      have hP : va_P (gD G) vwCl [(h, .inr (3, [.ref hl0, .ref qb, .int (nI cnt), .int (nI br)])), (hl0, .inr (4, [.ref qn])), (qn, .inl (G.2.2.1 0, 7, .inl (nA f))), (qb, .inl (G.2.2.1 0, 7, .inl (nA g)))] H := hP
      have hD : va_D A [(h, .inr (3, [.ref hl0, .ref qb, .int (nI cnt), .int (nI br)])), (hl0, .inr (4, [.ref qn])), (qn, .inl (G.2.2.1 0, 7, .inl (nA f))), (qb, .inl (G.2.2.1 0, 7, .inl (nA g)))] := hD
      refine W.eq (g2 := F0 m9 51 ls [.int (nI ((cl.testBit j).toNat))]) rfl ?_
      have hb2 : (cl.testBit j).toNat < 2 ^ 31 := Nat.lt_of_le_of_lt (Bool.toNat_le _) (by decide)
      refine gN_eq0 (tgt := 62) hx hb dX0_firstPairWithin_51 (by decide) (by omega) (fun c9 => ?_) (fun c9 => ?_)
      · refine lv_iinc (lv' := [(4, .int (nI (j + 1))), (0, .ref h), (1, .int (nI line)), (2, .int (nI i)), (3, .int (nI cl))]) hx hb dX0_firstPairWithin_62 hl (k := 4) rfl (n_inc _) (by decide) rfl (fun ls hl => ?_)
        refine lv_goto (tgt := 36) hx hb dX0_firstPairWithin_65 (by decide) ?_
        exact ih2 (j + 1)  (by omega) (by omega) (fun b h1 h2 => by by_cases e : b = j; (subst e; exact tb_f c9); (exact hn2 b h1 (by omega))) _ _ (hP.sub [0, 1, 2, 3] rfl) (hD.sub [0, 1, 2, 3] (by decide) rfl) hS _ (lv_sub hl [1, 2, 3, 4, 0] rfl)
      · refine lv_iload_n hx hb dX0_firstPairWithin_54 rfl (lv_at hl 2 rfl) ?_
        refine lv_bipush (v := nI 10) hx hb dX0_firstPairWithin_55 (by decide) ?_
        refine lv_imul hx hb dX0_firstPairWithin_57 ?_
        refine gTop (y := (nI (i * 10))) (pk_mul _ _) ?_
        refine lv_iload hx hb dX0_firstPairWithin_58 (lv_at hl 4 rfl) ?_
        refine lv_iadd hx hb dX0_firstPairWithin_60 ?_
        refine gTop (y := (nI (i * 10 + j))) (nI_add _ _) ?_
        have hj : cl.testBit j = true := tb_t c9
        exact gIret (hQ := hQ) hx hb hr hlocks hP hD hS (nI (i * 10 + j)) (Or.inr ⟨i, j, hij, by omega, (hcl j) ▸ hj, rfl⟩) (by rfl) [0, 1, 2, 3] (by decide) (by rfl) (Nat.le_of_ble_eq_true rfl) (Nat.le_of_ble_eq_true rfl) dX0_firstPairWithin_61
