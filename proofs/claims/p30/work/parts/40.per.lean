/-! Permits -/
/-- the chains' links of a set of the permits below n -/
def lay (S B : Nat → Nat) (set : Nat) : Nat → (Nat → Nat)
  | 0 => fun _ => 0
  | n + 1 => if set.testBit n then lnk (lay S B set n) (S n) (B n) else lay S B set n
theorem lay_f {S B : Nat → Nat} {set n : Nat} (h : set.testBit n = false) : lay S B set (n + 1) = lay S B set n := if_neg (by rw [h]; decide)
theorem lay_t {S B : Nat → Nat} {set n : Nat} (h : set.testBit n = true) : lay S B set (n + 1) = lnk (lay S B set n) (S n) (B n) := if_pos h
/-- two permits' ends that are sources -/
def isP (S B : Nat → Nat) (n : Nat) : Prop := ∀ i, i < n → S i < 7 ∧ B i < 7
def eq7 (f g : Nat → Nat) : Prop := ∀ j, j < 7 → f j = g j
theorem m7_lay {S B : Nat → Nat} {set : Nat} : ∀ {n : Nat}, isP S B n → m7 (lay S B set n)
  | 0, _ => fun _ _ => by show (0 : Nat) < 128; decide
  | n + 1, h => by
    have h1 : m7 (lay S B set n) := m7_lay (fun i hi => h i (by omega))
    unfold lay
    split
    · exact m7_lnk h1 (h n (by omega)).1 (h n (by omega)).2
    · exact h1
theorem m7_eq7 {f g : Nat → Nat} (h : eq7 f g) (hg : m7 g) : m7 f := fun i hi => by rw [h i hi]; exact hg i hi
theorem eq7_up {f g : Nat → Nat} (h : eq7 f g) {k x y : Nat} (e : x = y) : eq7 (va_up f k x) (va_up g k y) := fun j hj => by
  rw [va_up_at, va_up_at, e, h j hj]
theorem eq7_lnk {f g : Nat → Nat} (h : eq7 f g) {a b : Nat} (ha : a < 7) (hb : b < 7) : eq7 (lnk f a b) (lnk g a b) := by
  have h1 : eq7 (va_up f a (f a ||| 2 ^ b)) (va_up g a (g a ||| 2 ^ b)) := eq7_up h (by rw [h a ha])
  exact eq7_up h1 (by rw [h1 b hb])
theorem widN_eq7 {f g : Nat → Nat} (h : eq7 f g) (a : Nat) : ∀ n, n ≤ 7 → widN f a n = widN g a n
  | 0, _ => rfl
  | n + 1, hn => by rw [widN, widN, widN_eq7 h a n (by omega), h n (by omega)]
theorem rchN_eq7 {f g : Nat → Nat} (h : eq7 f g) (x : Nat) : ∀ n, rchN f x n = rchN g x n
  | 0 => rfl
  | n + 1 => by rw [rchN, rchN, rchN_eq7 h x n, wid, wid, widN_eq7 h _ 7 (Nat.le_refl 7)]
/-- no leak of the source i by the links c -/
def noL1 (c g : Nat → Nat) (i : Nat) : Prop := (rchN c (2 ^ i) 7 &&& g i) / 2 ^ (i + 1) = 0
def noLk (c g : Nat → Nat) (n : Nat) : Prop := ∀ i, i < n → noL1 c g i
theorem popc_0 {n : Nat} (h : n < 1024) : popc n = 0 ↔ n = 0 := by
  have h1 : (List.range 1024).all (fun n => decide (popc n = 0 ↔ n = 0)) = true := by decide +kernel
  exact of_decide_eq_true (List.all_eq_true.mp h1 n (List.mem_range.mpr h))
theorem pow2_le8 : ∀ c, c ≤ 8 → 2 ^ c ≤ 256 := by decide
theorem or_mask8 : ∀ i, i < 8 → (2 ^ i - 1) ||| 2 ^ i = 2 ^ (i + 1) - 1 := by decide
theorem clr_all {s c : Nat} (h : s < 2 ^ c) : clr s (2 ^ c - 1) = 0 := by
  unfold clr
  rw [Nat.and_two_pow_sub_one_eq_mod, Nat.mod_eq_of_lt h, Nat.xor_self]
theorem clr_le10 {a b : Nat} (h : a < 256) : clr a b < 256 := Nat.xor_lt_two_pow (n := 8) h (Nat.lt_of_le_of_lt Nat.and_le_left h)

def rm_c_Per_init : Room := { frames := 2, cells := 5, slots := 32, locals := 32 }
set_option maxHeartbeats 4000000 in
set_option maxRecDepth 100000 in
/-- Permits() -/
theorem c_Per_init (l : Launch) (G : gG) (h : Nat) (x1 : Value) (x2 : Value) (x3 : Value) (x4 : Value)  : gMet (S := Nat × Nat × Nat × Nat × Nat) l G yX2_init wsX2_init rm_c_Per_init [.ref h] [(h, .inr (5, [x1, x2, x3, x4, .int (nI 0), .int (nI 0), .int (nI 0), .int (nI 0)]))] (fun _ => True) (fun _ => none) (fun u => [(h, .inr (5, [.ref u.1, .ref u.2.1, .ref u.2.2.1, .ref u.2.2.2.1, .int (nI 0), .int (nI 0), .int (nI 0), .int (nI 0)])), (u.1, .inl (G.2.2.1 0, 8, .inl (nA (fun _ => 0)))), (u.2.1, .inl (G.2.2.1 0, 8, .inl (nA (fun _ => 0)))), (u.2.2.1, .inl (G.2.2.1 0, 8, .inl (nA (fun _ => 0)))), (u.2.2.2.1, .inr (4, [.ref u.2.2.2.2])), (u.2.2.2.2, .inl (G.2.2.1 0, 7, .inl (nA (fun _ => 0))))]) := by
  refine gOf (maxL := 1) (ret := none) (cc := cX2_init) (by decide) rfl (Nat.le_of_ble_eq_true rfl) ?_
  intro P9 e9 s m9 args below meth c9 A ls H locs Q hQ hx hb hml hr hown hts hlocks hin hK hP hD hS hA hE hl
  have hown : s.vm.findClass RX2 = some m9.cls := hown
  have hl : lv_has ls 1 [(0, .ref h)] := hl
  refine lv_aload_n hx hb dX2_init_0 rfl (lv_at hl 0 rfl) ?_
  refine W.objInit hx hb hown (hts (.methodLink RX2 3 objectInit) (by decide +kernel)) (hts (.instanceMethod objectInit) (by decide +kernel)) (hts _ (by decide +kernel)) rfl (by rw [hml]; exact hl.1) rfl dX2_init_1 (Nat.le_of_ble_eq_true rfl) (Nat.le_of_ble_eq_true rfl) ?_
  refine W.eq (g2 := F0 m9 4 ls []) rfl ?_
  refine lv_aload_n hx hb dX2_init_4 rfl (lv_at hl 0 rfl) ?_
  refine lv_bipush (v := nI 8) hx hb dX2_init_5 (by decide) ?_
  refine gN_newa (n := 8) hx hb (hts (.arrayClass .int) (by decide +kernel)) hK hP hD hS hA (by decide) (by decide) (Nat.le_of_ble_eq_true rfl) (Nat.le_of_ble_eq_true rfl) dX2_init_7 (fun q1 H hP hD hS => ?_)
  have hP : va_P (gD G) vwCl [(h, .inr (5, [x1, x2, x3, x4, .int (nI 0), .int (nI 0), .int (nI 0), .int (nI 0)])), (q1, .inl (G.2.2.1 0, 8, .inl (nA (fun _ => 0))))] H := hP
  have hD : va_D A [(h, .inr (5, [x1, x2, x3, x4, .int (nI 0), .int (nI 0), .int (nI 0), .int (nI 0)])), (q1, .inl (G.2.2.1 0, 8, .inl (nA (fun _ => 0))))] := hD
  refine W.widen (k := 1) (n := 8) (Nat.le_of_ble_eq_true rfl) (Nat.le_of_ble_eq_true rfl) ?_
  refine va_putF (D := gD G) (ci := 5) (v := .ref q1) (ty := (tyX2 0)) (C := RX2) (T := TX2) (N := 8) hx hb hts (by decide +kernel) tyX2 tyX2_ok nmX2 hown hK hP hD hS 0 rfl rfl 0 (by decide) (hts (.fieldLink RX2 9 "Degreewall$Permits" "smaller" "[I") (by decide +kernel)) (fun _ h9 => h9) rfl hin rfl (by decide +kernel) rfl rfl (Nat.le_of_ble_eq_true rfl) dX2_init_9 (fun H locs hP hD hS => ?_)
  have hP : va_P (gD G) vwCl [(h, .inr (5, [.ref q1, x2, x3, x4, .int (nI 0), .int (nI 0), .int (nI 0), .int (nI 0)])), (q1, .inl (G.2.2.1 0, 8, .inl (nA (fun _ => 0))))] H := hP
  have hD : va_D A [(h, .inr (5, [.ref q1, x2, x3, x4, .int (nI 0), .int (nI 0), .int (nI 0), .int (nI 0)])), (q1, .inl (G.2.2.1 0, 8, .inl (nA (fun _ => 0))))] := hD
  refine lv_aload_n hx hb dX2_init_12 rfl (lv_at hl 0 rfl) ?_
  refine lv_bipush (v := nI 8) hx hb dX2_init_13 (by decide) ?_
  refine gN_newa (n := 8) hx hb (hts (.arrayClass .int) (by decide +kernel)) hK hP hD hS hA (by decide) (by decide) (Nat.le_of_ble_eq_true rfl) (Nat.le_of_ble_eq_true rfl) dX2_init_15 (fun q2 H hP hD hS => ?_)
  have hP : va_P (gD G) vwCl [(h, .inr (5, [.ref q1, x2, x3, x4, .int (nI 0), .int (nI 0), .int (nI 0), .int (nI 0)])), (q1, .inl (G.2.2.1 0, 8, .inl (nA (fun _ => 0)))), (q2, .inl (G.2.2.1 0, 8, .inl (nA (fun _ => 0))))] H := hP
  have hD : va_D A [(h, .inr (5, [.ref q1, x2, x3, x4, .int (nI 0), .int (nI 0), .int (nI 0), .int (nI 0)])), (q1, .inl (G.2.2.1 0, 8, .inl (nA (fun _ => 0)))), (q2, .inl (G.2.2.1 0, 8, .inl (nA (fun _ => 0))))] := hD
  refine W.widen (k := 2) (n := 16) (Nat.le_of_ble_eq_true rfl) (Nat.le_of_ble_eq_true rfl) ?_
  refine va_putF (D := gD G) (ci := 5) (v := .ref q2) (ty := (tyX2 1)) (C := RX2) (T := TX2) (N := 8) hx hb hts (by decide +kernel) tyX2 tyX2_ok nmX2 hown hK hP hD hS 0 rfl rfl 1 (by decide) (hts (.fieldLink RX2 15 "Degreewall$Permits" "greater" "[I") (by decide +kernel)) (fun _ h9 => h9) rfl hin rfl (by decide +kernel) rfl rfl (Nat.le_of_ble_eq_true rfl) dX2_init_17 (fun H locs hP hD hS => ?_)
  have hP : va_P (gD G) vwCl [(h, .inr (5, [.ref q1, .ref q2, x3, x4, .int (nI 0), .int (nI 0), .int (nI 0), .int (nI 0)])), (q1, .inl (G.2.2.1 0, 8, .inl (nA (fun _ => 0)))), (q2, .inl (G.2.2.1 0, 8, .inl (nA (fun _ => 0))))] H := hP
  have hD : va_D A [(h, .inr (5, [.ref q1, .ref q2, x3, x4, .int (nI 0), .int (nI 0), .int (nI 0), .int (nI 0)])), (q1, .inl (G.2.2.1 0, 8, .inl (nA (fun _ => 0)))), (q2, .inl (G.2.2.1 0, 8, .inl (nA (fun _ => 0))))] := hD
  refine lv_aload_n hx hb dX2_init_20 rfl (lv_at hl 0 rfl) ?_
  refine lv_bipush (v := nI 8) hx hb dX2_init_21 (by decide) ?_
  refine gN_newa (n := 8) hx hb (hts (.arrayClass .int) (by decide +kernel)) hK hP hD hS hA (by decide) (by decide) (Nat.le_of_ble_eq_true rfl) (Nat.le_of_ble_eq_true rfl) dX2_init_23 (fun q3 H hP hD hS => ?_)
  have hP : va_P (gD G) vwCl [(h, .inr (5, [.ref q1, .ref q2, x3, x4, .int (nI 0), .int (nI 0), .int (nI 0), .int (nI 0)])), (q1, .inl (G.2.2.1 0, 8, .inl (nA (fun _ => 0)))), (q2, .inl (G.2.2.1 0, 8, .inl (nA (fun _ => 0)))), (q3, .inl (G.2.2.1 0, 8, .inl (nA (fun _ => 0))))] H := hP
  have hD : va_D A [(h, .inr (5, [.ref q1, .ref q2, x3, x4, .int (nI 0), .int (nI 0), .int (nI 0), .int (nI 0)])), (q1, .inl (G.2.2.1 0, 8, .inl (nA (fun _ => 0)))), (q2, .inl (G.2.2.1 0, 8, .inl (nA (fun _ => 0)))), (q3, .inl (G.2.2.1 0, 8, .inl (nA (fun _ => 0))))] := hD
  refine W.widen (k := 3) (n := 24) (Nat.le_of_ble_eq_true rfl) (Nat.le_of_ble_eq_true rfl) ?_
  refine va_putF (D := gD G) (ci := 5) (v := .ref q3) (ty := (tyX2 2)) (C := RX2) (T := TX2) (N := 8) hx hb hts (by decide +kernel) tyX2 tyX2_ok nmX2 hown hK hP hD hS 0 rfl rfl 2 (by decide) (hts (.fieldLink RX2 18 "Degreewall$Permits" "lastDay" "[I") (by decide +kernel)) (fun _ h9 => h9) rfl hin rfl (by decide +kernel) rfl rfl (Nat.le_of_ble_eq_true rfl) dX2_init_25 (fun H locs hP hD hS => ?_)
  have hP : va_P (gD G) vwCl [(h, .inr (5, [.ref q1, .ref q2, .ref q3, x4, .int (nI 0), .int (nI 0), .int (nI 0), .int (nI 0)])), (q1, .inl (G.2.2.1 0, 8, .inl (nA (fun _ => 0)))), (q2, .inl (G.2.2.1 0, 8, .inl (nA (fun _ => 0)))), (q3, .inl (G.2.2.1 0, 8, .inl (nA (fun _ => 0))))] H := hP
  have hD : va_D A [(h, .inr (5, [.ref q1, .ref q2, .ref q3, x4, .int (nI 0), .int (nI 0), .int (nI 0), .int (nI 0)])), (q1, .inl (G.2.2.1 0, 8, .inl (nA (fun _ => 0)))), (q2, .inl (G.2.2.1 0, 8, .inl (nA (fun _ => 0)))), (q3, .inl (G.2.2.1 0, 8, .inl (nA (fun _ => 0))))] := hD
  refine lv_aload_n hx hb dX2_init_28 rfl (lv_at hl 0 rfl) ?_
  refine va_new (ci := 4) (fs := [.null]) (C := RX1) (T := TX1) (N := 1) hx hb hts (by decide +kernel) tyX1 tyX1_ok hown (hts (.classLink RX2 21 RX1) (by decide +kernel)) (hts (.instantiable RX1 1) (by decide +kernel)) (hts (.initialized RX1) (by decide +kernel)) hK hP hD hS hA rfl (fun j hj => by rcases (show j = 0 by omega) with rfl <;> rfl) (Nat.le_of_ble_eq_true rfl) (Nat.le_of_ble_eq_true rfl) dX2_init_29 (fun q4 H hP hD hS => ?_)
  have hP : va_P (gD G) vwCl [(h, .inr (5, [.ref q1, .ref q2, .ref q3, x4, .int (nI 0), .int (nI 0), .int (nI 0), .int (nI 0)])), (q1, .inl (G.2.2.1 0, 8, .inl (nA (fun _ => 0)))), (q2, .inl (G.2.2.1 0, 8, .inl (nA (fun _ => 0)))), (q3, .inl (G.2.2.1 0, 8, .inl (nA (fun _ => 0)))), (q4, .inr (4, [.null]))] H := hP
  have hD : va_D A [(h, .inr (5, [.ref q1, .ref q2, .ref q3, x4, .int (nI 0), .int (nI 0), .int (nI 0), .int (nI 0)])), (q1, .inl (G.2.2.1 0, 8, .inl (nA (fun _ => 0)))), (q2, .inl (G.2.2.1 0, 8, .inl (nA (fun _ => 0)))), (q3, .inl (G.2.2.1 0, 8, .inl (nA (fun _ => 0)))), (q4, .inr (4, [.null]))] := hD
  refine W.widen (k := 4) (n := 25) (Nat.le_of_ble_eq_true rfl) (Nat.le_of_ble_eq_true rfl) ?_
  refine lv_dup hx hb dX2_init_32 rfl ?_
  refine gCIN (As := []) (rest := [.ref q4, .ref h]) (wr := [(h, .inr (5, [.ref q1, .ref q2, .ref q3, x4, .int (nI 0), .int (nI 0), .int (nI 0), .int (nI 0)])), (q1, .inl (G.2.2.1 0, 8, .inl (nA (fun _ => 0)))), (q2, .inl (G.2.2.1 0, 8, .inl (nA (fun _ => 0)))), (q3, .inl (G.2.2.1 0, 8, .inl (nA (fun _ => 0))))]) hE (c_Links_init l G q4 .null) ⟨va_cnB 0 hts ggX2_init_X1_init rfl rfl rfl (hE.nest 7 rfl) (hts (.initialized RX1) (by decide +kernel)) (by decide +kernel) ⟨Nat.le_of_ble_eq_true rfl, Nat.le_of_ble_eq_true rfl⟩, rfl, (hts (.instanceMethod yX1_init) (by decide +kernel))⟩ ⟨hx, hb, hml, hown, hts⟩ hK hP hD hS hA [4] [0, 1, 2, 3] rfl rfl (by decide) (by decide) (by decide) rfl hl rfl (Nat.le_of_ble_eq_true rfl) dX2_init_33 ⟨Nat.le_of_ble_eq_true rfl, Nat.le_of_ble_eq_true rfl⟩ (fun q5 H locs hu hP hD hS => ?_)
  have hP : va_P (gD G) vwCl [(h, .inr (5, [.ref q1, .ref q2, .ref q3, x4, .int (nI 0), .int (nI 0), .int (nI 0), .int (nI 0)])), (q1, .inl (G.2.2.1 0, 8, .inl (nA (fun _ => 0)))), (q2, .inl (G.2.2.1 0, 8, .inl (nA (fun _ => 0)))), (q3, .inl (G.2.2.1 0, 8, .inl (nA (fun _ => 0)))), (q4, .inr (4, [.ref q5])), (q5, .inl (G.2.2.1 0, 7, .inl (nA (fun _ => 0))))] H := hP
  have hD : va_D A [(h, .inr (5, [.ref q1, .ref q2, .ref q3, x4, .int (nI 0), .int (nI 0), .int (nI 0), .int (nI 0)])), (q1, .inl (G.2.2.1 0, 8, .inl (nA (fun _ => 0)))), (q2, .inl (G.2.2.1 0, 8, .inl (nA (fun _ => 0)))), (q3, .inl (G.2.2.1 0, 8, .inl (nA (fun _ => 0)))), (q4, .inr (4, [.ref q5])), (q5, .inl (G.2.2.1 0, 7, .inl (nA (fun _ => 0))))] := hD
  refine W.widen (k := 5) (n := 32) (Nat.le_of_ble_eq_true rfl) (Nat.le_of_ble_eq_true rfl) ?_
  refine W.eq (g2 := F0 m9 36 ls [.ref q4, .ref h]) rfl ?_
  refine va_putF (D := gD G) (ci := 5) (v := .ref q4) (ty := (tyX2 3)) (C := RX2) (T := TX2) (N := 8) hx hb hts (by decide +kernel) tyX2 tyX2_ok nmX2 hown hK hP hD hS 0 rfl rfl 3 (by decide) (hts (.fieldLink RX2 24 "Degreewall$Permits" "chains" "LDegreewall$Links;") (by decide +kernel)) (fun _ h9 => h9) rfl hin rfl (by decide +kernel) rfl rfl (Nat.le_of_ble_eq_true rfl) dX2_init_36 (fun H locs hP hD hS => ?_)
  have hP : va_P (gD G) vwCl [(h, .inr (5, [.ref q1, .ref q2, .ref q3, .ref q4, .int (nI 0), .int (nI 0), .int (nI 0), .int (nI 0)])), (q1, .inl (G.2.2.1 0, 8, .inl (nA (fun _ => 0)))), (q2, .inl (G.2.2.1 0, 8, .inl (nA (fun _ => 0)))), (q3, .inl (G.2.2.1 0, 8, .inl (nA (fun _ => 0)))), (q4, .inr (4, [.ref q5])), (q5, .inl (G.2.2.1 0, 7, .inl (nA (fun _ => 0))))] H := hP
  have hD : va_D A [(h, .inr (5, [.ref q1, .ref q2, .ref q3, .ref q4, .int (nI 0), .int (nI 0), .int (nI 0), .int (nI 0)])), (q1, .inl (G.2.2.1 0, 8, .inl (nA (fun _ => 0)))), (q2, .inl (G.2.2.1 0, 8, .inl (nA (fun _ => 0)))), (q3, .inl (G.2.2.1 0, 8, .inl (nA (fun _ => 0)))), (q4, .inr (4, [.ref q5])), (q5, .inl (G.2.2.1 0, 7, .inl (nA (fun _ => 0))))] := hD
  exact gVret (hQ := hQ) hx hb hr hlocks hP hD hS (q1, q2, q3, q4, q5) trivial (by rfl) [0, 1, 2, 3, 4, 5] (by decide) (by rfl) (Nat.le_of_ble_eq_true rfl) (Nat.le_of_ble_eq_true rfl) dX2_init_39

def rm_c_Per_count : Room := { frames := 0, cells := 0, slots := 0, locals := 0 }
set_option maxHeartbeats 4000000 in
set_option maxRecDepth 100000 in
/-- count -/
theorem c_Per_count (l : Launch) (G : gG) (h : Nat) (qs : Nat) (qg : Nat) (qd : Nat) (hc0 : Nat) (qc : Nat) (S : Nat → Nat) (B : Nat → Nat) (D : Nat → Nat) (c0 : Nat → Nat) (pc : Nat) (rp : Nat)  : gMet (S := Unit) l G yX2_count wsX2_count rm_c_Per_count [.ref h] [(h, .inr (5, [.ref qs, .ref qg, .ref qd, .ref hc0, .int (nI pc), .int (nI 0), .int (nI 0), .int (nI rp)])), (qs, .inl (G.2.2.1 0, 8, .inl (nA S))), (qg, .inl (G.2.2.1 0, 8, .inl (nA B))), (qd, .inl (G.2.2.1 0, 8, .inl (nA D))), (hc0, .inr (4, [.ref qc])), (qc, .inl (G.2.2.1 0, 7, .inl (nA c0)))] (fun _ => True) (fun _ => some (.int (nI pc))) (fun _ => [(h, .inr (5, [.ref qs, .ref qg, .ref qd, .ref hc0, .int (nI pc), .int (nI 0), .int (nI 0), .int (nI rp)])), (qs, .inl (G.2.2.1 0, 8, .inl (nA S))), (qg, .inl (G.2.2.1 0, 8, .inl (nA B))), (qd, .inl (G.2.2.1 0, 8, .inl (nA D))), (hc0, .inr (4, [.ref qc])), (qc, .inl (G.2.2.1 0, 7, .inl (nA c0)))]) := by
  refine gOf (maxL := 1) (ret := (some .int)) (cc := cX2_count) (by decide) rfl (Nat.le_of_ble_eq_true rfl) ?_
  intro P9 e9 s m9 args below meth c9 A ls H locs Q hQ hx hb hml hr hown hts hlocks hin hK hP hD hS hA hE hl
  have hown : s.vm.findClass RX2 = some m9.cls := hown
  have hl : lv_has ls 1 [(0, .ref h)] := hl
  refine lv_aload_n hx hb dX2_count_0 rfl (lv_at hl 0 rfl) ?_
  refine va_get (D := gD G) (ci := 5) (v := .int (nI pc)) (C := RX2) (T := TX2) (N := 8) hx hb hts (by decide +kernel) hown hK hP 0 rfl rfl 4 (by decide) (hts (.fieldLink RX2 28 "Degreewall$Permits" "count" "I") (by decide +kernel)) (fun _ h9 => h9) rfl dX2_count_1 ?_
  exact gIret (hQ := hQ) hx hb hr hlocks hP hD hS () trivial (by rfl) [0, 1, 2, 3, 4, 5] (by decide) (by rfl) (Nat.le_of_ble_eq_true rfl) (Nat.le_of_ble_eq_true rfl) dX2_count_4

def rm_c_Per_repair : Room := { frames := 0, cells := 0, slots := 0, locals := 0 }
set_option maxHeartbeats 4000000 in
set_option maxRecDepth 100000 in
/-- repair -/
theorem c_Per_repair (l : Launch) (G : gG) (h : Nat) (qs : Nat) (qg : Nat) (qd : Nat) (hc0 : Nat) (qc : Nat) (S : Nat → Nat) (B : Nat → Nat) (D : Nat → Nat) (c0 : Nat → Nat) (pc : Nat) (rp : Nat)  : gMet (S := Unit) l G yX2_repair wsX2_repair rm_c_Per_repair [.ref h] [(h, .inr (5, [.ref qs, .ref qg, .ref qd, .ref hc0, .int (nI pc), .int (nI 0), .int (nI 0), .int (nI rp)])), (qs, .inl (G.2.2.1 0, 8, .inl (nA S))), (qg, .inl (G.2.2.1 0, 8, .inl (nA B))), (qd, .inl (G.2.2.1 0, 8, .inl (nA D))), (hc0, .inr (4, [.ref qc])), (qc, .inl (G.2.2.1 0, 7, .inl (nA c0)))] (fun _ => True) (fun _ => some (.int (nI rp))) (fun _ => [(h, .inr (5, [.ref qs, .ref qg, .ref qd, .ref hc0, .int (nI pc), .int (nI 0), .int (nI 0), .int (nI rp)])), (qs, .inl (G.2.2.1 0, 8, .inl (nA S))), (qg, .inl (G.2.2.1 0, 8, .inl (nA B))), (qd, .inl (G.2.2.1 0, 8, .inl (nA D))), (hc0, .inr (4, [.ref qc])), (qc, .inl (G.2.2.1 0, 7, .inl (nA c0)))]) := by
  refine gOf (maxL := 1) (ret := (some .int)) (cc := cX2_repair) (by decide) rfl (Nat.le_of_ble_eq_true rfl) ?_
  intro P9 e9 s m9 args below meth c9 A ls H locs Q hQ hx hb hml hr hown hts hlocks hin hK hP hD hS hA hE hl
  have hown : s.vm.findClass RX2 = some m9.cls := hown
  have hl : lv_has ls 1 [(0, .ref h)] := hl
  refine lv_aload_n hx hb dX2_repair_0 rfl (lv_at hl 0 rfl) ?_
  refine va_get (D := gD G) (ci := 5) (v := .int (nI rp)) (C := RX2) (T := TX2) (N := 8) hx hb hts (by decide +kernel) hown hK hP 0 rfl rfl 7 (by decide) (hts (.fieldLink RX2 35 "Degreewall$Permits" "repair" "I") (by decide +kernel)) (fun _ h9 => h9) rfl dX2_repair_1 ?_
  exact gIret (hQ := hQ) hx hb hr hlocks hP hD hS () trivial (by rfl) [0, 1, 2, 3, 4, 5] (by decide) (by rfl) (Nat.le_of_ble_eq_true rfl) (Nat.le_of_ble_eq_true rfl) dX2_repair_4

def rm_c_Per_add : Room := { frames := 1, cells := 0, slots := 0, locals := 15 }
set_option maxHeartbeats 4000000 in
set_option maxRecDepth 100000 in
/-- add(one, other, days) -/
theorem c_Per_add (l : Launch) (G : gG) (h : Nat) (qs : Nat) (qg : Nat) (qd : Nat) (hc0 : Nat) (qc : Nat) (S : Nat → Nat) (B : Nat → Nat) (D : Nat → Nat) (c0 : Nat → Nat) (pc : Nat) (rp : Nat) (a : Nat) (b : Nat) (days : Nat) (hp : pc < 8) (ha : a < 7) (hb7 : b < 7) : gMet (S := Unit) l G yX2_add wsX2_add rm_c_Per_add [.ref h, .int (nI a), .int (nI b), .int (nI days)] [(h, .inr (5, [.ref qs, .ref qg, .ref qd, .ref hc0, .int (nI pc), .int (nI 0), .int (nI 0), .int (nI rp)])), (qs, .inl (G.2.2.1 0, 8, .inl (nA S))), (qg, .inl (G.2.2.1 0, 8, .inl (nA B))), (qd, .inl (G.2.2.1 0, 8, .inl (nA D))), (hc0, .inr (4, [.ref qc])), (qc, .inl (G.2.2.1 0, 7, .inl (nA c0)))] (fun _ => True) (fun _ => some (.int (nI pc))) (fun _ => [(h, .inr (5, [.ref qs, .ref qg, .ref qd, .ref hc0, .int (nI (pc + 1)), .int (nI 0), .int (nI 0), .int (nI rp)])), (qs, .inl (G.2.2.1 0, 8, .inl (nA (va_up S pc (min a b))))), (qg, .inl (G.2.2.1 0, 8, .inl (nA (va_up B pc (max a b))))), (qd, .inl (G.2.2.1 0, 8, .inl (nA (va_up D pc (0 + days))))), (hc0, .inr (4, [.ref qc])), (qc, .inl (G.2.2.1 0, 7, .inl (nA c0)))]) := by
  refine gOf (maxL := 4) (ret := (some .int)) (cc := cX2_add) (by decide) rfl (Nat.le_of_ble_eq_true rfl) ?_
  intro P9 e9 s m9 args below meth c9 A ls H locs Q hQ hx hb hml hr hown hts hlocks hin hK hP hD hS hA hE hl
  have hown : s.vm.findClass RX2 = some m9.cls := hown
  have hl : lv_has ls 4 [(0, .ref h), (1, .int (nI a)), (2, .int (nI b)), (3, .int (nI days))] := hl
  refine lv_aload_n hx hb dX2_add_0 rfl (lv_at hl 0 rfl) ?_
  refine va_get (D := gD G) (ci := 5) (v := .ref qs) (C := RX2) (T := TX2) (N := 8) hx hb hts (by decide +kernel) hown hK hP 0 rfl rfl 0 (by decide) (hts (.fieldLink RX2 9 "Degreewall$Permits" "smaller" "[I") (by decide +kernel)) (fun _ h9 => h9) rfl dX2_add_1 ?_
  refine lv_aload_n hx hb dX2_add_4 rfl (lv_at hl 0 rfl) ?_
  refine va_get (D := gD G) (ci := 5) (v := .int (nI pc)) (C := RX2) (T := TX2) (N := 8) hx hb hts (by decide +kernel) hown hK hP 0 rfl rfl 4 (by decide) (hts (.fieldLink RX2 28 "Degreewall$Permits" "count" "I") (by decide +kernel)) (fun _ h9 => h9) rfl dX2_add_5 ?_
  refine lv_iload_n hx hb dX2_add_8 rfl (lv_at hl 1 rfl) ?_
  refine lv_iload_n hx hb dX2_add_9 rfl (lv_at hl 2 rfl) ?_
  refine va_mmin hx hb (hml.trans hl.1.symm) hown (hts (.methodLink RX2 55 Lib.Math.min.name) (by decide +kernel)) (hts (.static Lib.Math.min.name) (by decide +kernel)) (hts (.initialized "java/lang/Math") (by decide +kernel)) (hts (.code Lib.Math.min.name Lib.Math.min.code 2 (some .int)) (by decide +kernel)) (Nat.le_of_ble_eq_true rfl) (Nat.le_of_ble_eq_true rfl) (Nat.le_of_ble_eq_true rfl) (Nat.le_of_ble_eq_true rfl) dX2_add_10 ?_
  refine gTop (y := (nI (min a b))) (n_min (by omega) (by omega)) ?_
  refine gN_iast hx hb hK hP hD hS 1 0 rfl rfl (by omega) (by decide) dX2_add_13 (fun H locs hP hD hS => ?_)
  have hP : va_P (gD G) vwCl [(h, .inr (5, [.ref qs, .ref qg, .ref qd, .ref hc0, .int (nI pc), .int (nI 0), .int (nI 0), .int (nI rp)])), (qs, .inl (G.2.2.1 0, 8, .inl (nA (va_up S pc (min a b))))), (qg, .inl (G.2.2.1 0, 8, .inl (nA B))), (qd, .inl (G.2.2.1 0, 8, .inl (nA D))), (hc0, .inr (4, [.ref qc])), (qc, .inl (G.2.2.1 0, 7, .inl (nA c0)))] H := hP
  have hD : va_D A [(h, .inr (5, [.ref qs, .ref qg, .ref qd, .ref hc0, .int (nI pc), .int (nI 0), .int (nI 0), .int (nI rp)])), (qs, .inl (G.2.2.1 0, 8, .inl (nA (va_up S pc (min a b))))), (qg, .inl (G.2.2.1 0, 8, .inl (nA B))), (qd, .inl (G.2.2.1 0, 8, .inl (nA D))), (hc0, .inr (4, [.ref qc])), (qc, .inl (G.2.2.1 0, 7, .inl (nA c0)))] := hD
  refine lv_aload_n hx hb dX2_add_14 rfl (lv_at hl 0 rfl) ?_
  refine va_get (D := gD G) (ci := 5) (v := .ref qg) (C := RX2) (T := TX2) (N := 8) hx hb hts (by decide +kernel) hown hK hP 0 rfl rfl 1 (by decide) (hts (.fieldLink RX2 15 "Degreewall$Permits" "greater" "[I") (by decide +kernel)) (fun _ h9 => h9) rfl dX2_add_15 ?_
  refine lv_aload_n hx hb dX2_add_18 rfl (lv_at hl 0 rfl) ?_
  refine va_get (D := gD G) (ci := 5) (v := .int (nI pc)) (C := RX2) (T := TX2) (N := 8) hx hb hts (by decide +kernel) hown hK hP 0 rfl rfl 4 (by decide) (hts (.fieldLink RX2 28 "Degreewall$Permits" "count" "I") (by decide +kernel)) (fun _ h9 => h9) rfl dX2_add_19 ?_
  refine lv_iload_n hx hb dX2_add_22 rfl (lv_at hl 1 rfl) ?_
  refine lv_iload_n hx hb dX2_add_23 rfl (lv_at hl 2 rfl) ?_
  refine va_mmax hx hb (hml.trans hl.1.symm) hown (hts (.methodLink RX2 61 Lib.Math.max.name) (by decide +kernel)) (hts (.static Lib.Math.max.name) (by decide +kernel)) (hts (.initialized "java/lang/Math") (by decide +kernel)) (hts (.code Lib.Math.max.name Lib.Math.max.code 2 (some .int)) (by decide +kernel)) (Nat.le_of_ble_eq_true rfl) (Nat.le_of_ble_eq_true rfl) (Nat.le_of_ble_eq_true rfl) (Nat.le_of_ble_eq_true rfl) dX2_add_24 ?_
  refine gTop (y := (nI (max a b))) (n_max (by omega) (by omega)) ?_
  refine gN_iast hx hb hK hP hD hS 2 0 rfl rfl (by omega) (by decide) dX2_add_27 (fun H locs hP hD hS => ?_)
  have hP : va_P (gD G) vwCl [(h, .inr (5, [.ref qs, .ref qg, .ref qd, .ref hc0, .int (nI pc), .int (nI 0), .int (nI 0), .int (nI rp)])), (qs, .inl (G.2.2.1 0, 8, .inl (nA (va_up S pc (min a b))))), (qg, .inl (G.2.2.1 0, 8, .inl (nA (va_up B pc (max a b))))), (qd, .inl (G.2.2.1 0, 8, .inl (nA D))), (hc0, .inr (4, [.ref qc])), (qc, .inl (G.2.2.1 0, 7, .inl (nA c0)))] H := hP
  have hD : va_D A [(h, .inr (5, [.ref qs, .ref qg, .ref qd, .ref hc0, .int (nI pc), .int (nI 0), .int (nI 0), .int (nI rp)])), (qs, .inl (G.2.2.1 0, 8, .inl (nA (va_up S pc (min a b))))), (qg, .inl (G.2.2.1 0, 8, .inl (nA (va_up B pc (max a b))))), (qd, .inl (G.2.2.1 0, 8, .inl (nA D))), (hc0, .inr (4, [.ref qc])), (qc, .inl (G.2.2.1 0, 7, .inl (nA c0)))] := hD
  refine lv_aload_n hx hb dX2_add_28 rfl (lv_at hl 0 rfl) ?_
  refine va_get (D := gD G) (ci := 5) (v := .ref qd) (C := RX2) (T := TX2) (N := 8) hx hb hts (by decide +kernel) hown hK hP 0 rfl rfl 2 (by decide) (hts (.fieldLink RX2 18 "Degreewall$Permits" "lastDay" "[I") (by decide +kernel)) (fun _ h9 => h9) rfl dX2_add_29 ?_
  refine lv_aload_n hx hb dX2_add_32 rfl (lv_at hl 0 rfl) ?_
  refine va_get (D := gD G) (ci := 5) (v := .int (nI pc)) (C := RX2) (T := TX2) (N := 8) hx hb hts (by decide +kernel) hown hK hP 0 rfl rfl 4 (by decide) (hts (.fieldLink RX2 28 "Degreewall$Permits" "count" "I") (by decide +kernel)) (fun _ h9 => h9) rfl dX2_add_33 ?_
  refine lv_aload_n hx hb dX2_add_36 rfl (lv_at hl 0 rfl) ?_
  refine va_get (D := gD G) (ci := 5) (v := .int (nI 0)) (C := RX2) (T := TX2) (N := 8) hx hb hts (by decide +kernel) hown hK hP 0 rfl rfl 6 (by decide) (hts (.fieldLink RX2 32 "Degreewall$Permits" "today" "I") (by decide +kernel)) (fun _ h9 => h9) rfl dX2_add_37 ?_
  refine lv_iload_n hx hb dX2_add_40 rfl (lv_at hl 3 rfl) ?_
  refine lv_iadd hx hb dX2_add_41 ?_
  refine gTop (y := (nI (0 + days))) (nI_add _ _) ?_
  refine gN_iast hx hb hK hP hD hS 3 0 rfl rfl (by omega) (by decide) dX2_add_42 (fun H locs hP hD hS => ?_)
  have hP : va_P (gD G) vwCl [(h, .inr (5, [.ref qs, .ref qg, .ref qd, .ref hc0, .int (nI pc), .int (nI 0), .int (nI 0), .int (nI rp)])), (qs, .inl (G.2.2.1 0, 8, .inl (nA (va_up S pc (min a b))))), (qg, .inl (G.2.2.1 0, 8, .inl (nA (va_up B pc (max a b))))), (qd, .inl (G.2.2.1 0, 8, .inl (nA (va_up D pc (0 + days))))), (hc0, .inr (4, [.ref qc])), (qc, .inl (G.2.2.1 0, 7, .inl (nA c0)))] H := hP
  have hD : va_D A [(h, .inr (5, [.ref qs, .ref qg, .ref qd, .ref hc0, .int (nI pc), .int (nI 0), .int (nI 0), .int (nI rp)])), (qs, .inl (G.2.2.1 0, 8, .inl (nA (va_up S pc (min a b))))), (qg, .inl (G.2.2.1 0, 8, .inl (nA (va_up B pc (max a b))))), (qd, .inl (G.2.2.1 0, 8, .inl (nA (va_up D pc (0 + days))))), (hc0, .inr (4, [.ref qc])), (qc, .inl (G.2.2.1 0, 7, .inl (nA c0)))] := hD
  refine lv_aload_n hx hb dX2_add_43 rfl (lv_at hl 0 rfl) ?_
  refine lv_dup hx hb dX2_add_44 rfl ?_
  refine va_get (D := gD G) (ci := 5) (v := .int (nI pc)) (C := RX2) (T := TX2) (N := 8) hx hb hts (by decide +kernel) hown hK hP 0 rfl rfl 4 (by decide) (hts (.fieldLink RX2 28 "Degreewall$Permits" "count" "I") (by decide +kernel)) (fun _ h9 => h9) rfl dX2_add_45 ?_
  refine lv_iconst (v := nI 1) hx hb dX2_add_48 (by decide) ?_
  refine lv_iadd hx hb dX2_add_49 ?_
  refine gTop (y := (nI (pc + 1))) (nI_add _ _) ?_
  refine va_put (D := gD G) (ci := 5) (v := .int (nI (pc + 1))) (ty := .int) (C := RX2) (T := TX2) (N := 8) hx hb hts (by decide +kernel) tyX2 tyX2_ok nmX2 hown hK hP hD hS 0 rfl rfl 4 (by decide) (hts (.fieldLink RX2 28 "Degreewall$Permits" "count" "I") (by decide +kernel)) (fun _ h9 => h9) rfl (by decide +kernel) rfl rfl (Nat.le_of_ble_eq_true rfl) dX2_add_50 (fun H locs hP hD hS => ?_)
  have hP : va_P (gD G) vwCl [(h, .inr (5, [.ref qs, .ref qg, .ref qd, .ref hc0, .int (nI (pc + 1)), .int (nI 0), .int (nI 0), .int (nI rp)])), (qs, .inl (G.2.2.1 0, 8, .inl (nA (va_up S pc (min a b))))), (qg, .inl (G.2.2.1 0, 8, .inl (nA (va_up B pc (max a b))))), (qd, .inl (G.2.2.1 0, 8, .inl (nA (va_up D pc (0 + days))))), (hc0, .inr (4, [.ref qc])), (qc, .inl (G.2.2.1 0, 7, .inl (nA c0)))] H := hP
  have hD : va_D A [(h, .inr (5, [.ref qs, .ref qg, .ref qd, .ref hc0, .int (nI (pc + 1)), .int (nI 0), .int (nI 0), .int (nI rp)])), (qs, .inl (G.2.2.1 0, 8, .inl (nA (va_up S pc (min a b))))), (qg, .inl (G.2.2.1 0, 8, .inl (nA (va_up B pc (max a b))))), (qd, .inl (G.2.2.1 0, 8, .inl (nA (va_up D pc (0 + days))))), (hc0, .inr (4, [.ref qc])), (qc, .inl (G.2.2.1 0, 7, .inl (nA c0)))] := hD
  refine lv_aload_n hx hb dX2_add_53 rfl (lv_at hl 0 rfl) ?_
  refine va_get (D := gD G) (ci := 5) (v := .int (nI (pc + 1))) (C := RX2) (T := TX2) (N := 8) hx hb hts (by decide +kernel) hown hK hP 0 rfl rfl 4 (by decide) (hts (.fieldLink RX2 28 "Degreewall$Permits" "count" "I") (by decide +kernel)) (fun _ h9 => h9) rfl dX2_add_54 ?_
  refine lv_iconst (v := nI 1) hx hb dX2_add_57 (by decide) ?_
  refine lv_isub hx hb dX2_add_58 ?_
  refine gTop (y := (nI ((pc + 1) - 1))) (pk_sub (by omega)) ?_
  refine gTop (y := nI pc) (congrArg nI (by omega)) ?_
  exact gIret (hQ := hQ) hx hb hr hlocks hP hD hS () trivial (by rfl) [0, 1, 2, 3, 4, 5] (by decide) (by rfl) (Nat.le_of_ble_eq_true rfl) (Nat.le_of_ble_eq_true rfl) dX2_add_59

def rm_c_Per_isInForce : Room := { frames := 1, cells := 0, slots := 0, locals := 21 }
set_option maxHeartbeats 4000000 in
set_option maxRecDepth 100000 in
/-- isInForce(k): today is 0, nothing is revoked -/
theorem c_Per_isInForce (l : Launch) (G : gG) (h : Nat) (qs : Nat) (qg : Nat) (qd : Nat) (hc0 : Nat) (qc : Nat) (S : Nat → Nat) (B : Nat → Nat) (D : Nat → Nat) (c0 : Nat → Nat) (pc : Nat) (rp : Nat) (k : Nat) (hk : k < 8) (hd : ∀ j, j < 8 → D j < 2 ^ 31) : gMet (S := Unit) l G yX2_isInForce wsX2_isInForce rm_c_Per_isInForce [.ref h, .int (nI k)] [(h, .inr (5, [.ref qs, .ref qg, .ref qd, .ref hc0, .int (nI pc), .int (nI 0), .int (nI 0), .int (nI rp)])), (qs, .inl (G.2.2.1 0, 8, .inl (nA S))), (qg, .inl (G.2.2.1 0, 8, .inl (nA B))), (qd, .inl (G.2.2.1 0, 8, .inl (nA D))), (hc0, .inr (4, [.ref qc])), (qc, .inl (G.2.2.1 0, 7, .inl (nA c0)))] (fun _ => True) (fun _ => some (.int (nI 1))) (fun _ => [(h, .inr (5, [.ref qs, .ref qg, .ref qd, .ref hc0, .int (nI pc), .int (nI 0), .int (nI 0), .int (nI rp)])), (qs, .inl (G.2.2.1 0, 8, .inl (nA S))), (qg, .inl (G.2.2.1 0, 8, .inl (nA B))), (qd, .inl (G.2.2.1 0, 8, .inl (nA D))), (hc0, .inr (4, [.ref qc])), (qc, .inl (G.2.2.1 0, 7, .inl (nA c0)))]) := by
  refine gOf (maxL := 2) (ret := (some .boolean)) (cc := cX2_isInForce) (by decide) rfl (Nat.le_of_ble_eq_true rfl) ?_
  intro P9 e9 s m9 args below meth c9 A ls H locs Q hQ hx hb hml hr hown hts hlocks hin hK hP hD hS hA hE hl
  have hown : s.vm.findClass RX2 = some m9.cls := hown
  have hl : lv_has ls 2 [(0, .ref h), (1, .int (nI k))] := hl
  refine lv_aload_n hx hb dX2_isInForce_0 rfl (lv_at hl 0 rfl) ?_
  refine va_get (D := gD G) (ci := 5) (v := .int (nI 0)) (C := RX2) (T := TX2) (N := 8) hx hb hts (by decide +kernel) hown hK hP 0 rfl rfl 6 (by decide) (hts (.fieldLink RX2 32 "Degreewall$Permits" "today" "I") (by decide +kernel)) (fun _ h9 => h9) rfl dX2_isInForce_1 ?_
  refine lv_aload_n hx hb dX2_isInForce_4 rfl (lv_at hl 0 rfl) ?_
  refine va_get (D := gD G) (ci := 5) (v := .ref qd) (C := RX2) (T := TX2) (N := 8) hx hb hts (by decide +kernel) hown hK hP 0 rfl rfl 2 (by decide) (hts (.fieldLink RX2 18 "Degreewall$Permits" "lastDay" "[I") (by decide +kernel)) (fun _ h9 => h9) rfl dX2_isInForce_5 ?_
  refine lv_iload_n hx hb dX2_isInForce_8 rfl (lv_at hl 1 rfl) ?_
  refine gN_iald hx hb hK hP 3 0 rfl rfl (by omega) (by decide) dX2_isInForce_9 ?_
  have hdk := hd k hk
  refine gN_gt (tgt := 28) hx hb dX2_isInForce_10 (by decide) (by decide) (by omega) (fun c1 => absurd c1 (by omega)) (fun c1 => ?_)
  refine lv_aload_n hx hb dX2_isInForce_13 rfl (lv_at hl 0 rfl) ?_
  refine va_get (D := gD G) (ci := 5) (v := .int (nI 0)) (C := RX2) (T := TX2) (N := 8) hx hb hts (by decide +kernel) hown hK hP 0 rfl rfl 5 (by decide) (hts (.fieldLink RX2 38 "Degreewall$Permits" "revoked" "I") (by decide +kernel)) (fun _ h9 => h9) rfl dX2_isInForce_14 ?_
  refine lv_iload_n hx hb dX2_isInForce_17 rfl (lv_at hl 1 rfl) ?_
  refine gCSN (As := [.int (nI 0), .int (nI k)]) (rest := []) (wr := [(h, .inr (5, [.ref qs, .ref qg, .ref qd, .ref hc0, .int (nI pc), .int (nI 0), .int (nI 0), .int (nI rp)])), (qs, .inl (G.2.2.1 0, 8, .inl (nA S))), (qg, .inl (G.2.2.1 0, 8, .inl (nA B))), (qd, .inl (G.2.2.1 0, 8, .inl (nA D))), (hc0, .inr (4, [.ref qc])), (qc, .inl (G.2.2.1 0, 7, .inl (nA c0)))]) hE (c_contains l G 0 k (by omega) (by omega)) ⟨va_cnB 2 hts ggX2_isInForce_X6_contains rfl rfl rfl (hE.nest 8 rfl) (hts (.initialized RX6) (by decide +kernel)) (by decide +kernel) ⟨Nat.le_of_ble_eq_true rfl, Nat.le_of_ble_eq_true rfl⟩, (hts (.static yX6_contains) (by decide +kernel)), trivial⟩ ⟨hx, hb, hml, hown, hts⟩ hK hP hD hS hA [] [0, 1, 2, 3, 4, 5] rfl rfl (by decide) (by decide) (by decide) rfl hl rfl (Nat.le_of_ble_eq_true rfl) dX2_isInForce_18 ⟨Nat.le_of_ble_eq_true rfl, Nat.le_of_ble_eq_true rfl⟩ (fun u9 H locs hu hP hD hS => ?_)
  have hP : va_P (gD G) vwCl [(h, .inr (5, [.ref qs, .ref qg, .ref qd, .ref hc0, .int (nI pc), .int (nI 0), .int (nI 0), .int (nI rp)])), (qs, .inl (G.2.2.1 0, 8, .inl (nA S))), (qg, .inl (G.2.2.1 0, 8, .inl (nA B))), (qd, .inl (G.2.2.1 0, 8, .inl (nA D))), (hc0, .inr (4, [.ref qc])), (qc, .inl (G.2.2.1 0, 7, .inl (nA c0)))] H := hP
  have hD : va_D A [(h, .inr (5, [.ref qs, .ref qg, .ref qd, .ref hc0, .int (nI pc), .int (nI 0), .int (nI 0), .int (nI rp)])), (qs, .inl (G.2.2.1 0, 8, .inl (nA S))), (qg, .inl (G.2.2.1 0, 8, .inl (nA B))), (qd, .inl (G.2.2.1 0, 8, .inl (nA D))), (hc0, .inr (4, [.ref qc])), (qc, .inl (G.2.2.1 0, 7, .inl (nA c0)))] := hD
  refine W.eq (g2 := F0 m9 21 ls [.int (nI ((Nat.testBit 0 k).toNat))]) rfl ?_
  have h0 : (Nat.testBit 0 k).toNat = 0 := by rw [Nat.zero_testBit]; rfl
  refine gN_ne0 (tgt := 28) hx hb dX2_isInForce_21 (by decide) (by omega) (fun c2 => absurd c2 (by omega)) (fun c2 => ?_)
  refine lv_iconst (v := nI 1) hx hb dX2_isInForce_24 (by decide) ?_
  refine lv_goto (tgt := 29) hx hb dX2_isInForce_25 (by decide) ?_
  exact gZret (hQ := hQ) hx hb hr hlocks (by first | exact Or.inl rfl | exact Or.inr rfl) hP hD hS () trivial (by rfl) [0, 1, 2, 3, 4, 5] (by decide) (by rfl) (Nat.le_of_ble_eq_true rfl) (Nat.le_of_ble_eq_true rfl) dX2_isInForce_29

def rm_c_Per_inForce : Room := { frames := 2, cells := 0, slots := 0, locals := 42 }
set_option maxHeartbeats 4000000 in
set_option maxRecDepth 100000 in
/-- inForce(): all -/
theorem c_Per_inForce (l : Launch) (G : gG) (h : Nat) (qs : Nat) (qg : Nat) (qd : Nat) (hc0 : Nat) (qc : Nat) (S : Nat → Nat) (B : Nat → Nat) (D : Nat → Nat) (c0 : Nat → Nat) (pc : Nat) (rp : Nat) (hp : pc ≤ 8) (hd : ∀ j, j < 8 → D j < 2 ^ 31) : gMet (S := Unit) l G yX2_inForce wsX2_inForce rm_c_Per_inForce [.ref h] [(h, .inr (5, [.ref qs, .ref qg, .ref qd, .ref hc0, .int (nI pc), .int (nI 0), .int (nI 0), .int (nI rp)])), (qs, .inl (G.2.2.1 0, 8, .inl (nA S))), (qg, .inl (G.2.2.1 0, 8, .inl (nA B))), (qd, .inl (G.2.2.1 0, 8, .inl (nA D))), (hc0, .inr (4, [.ref qc])), (qc, .inl (G.2.2.1 0, 7, .inl (nA c0)))] (fun _ => True) (fun _ => some (.int (nI (2 ^ pc - 1)))) (fun _ => [(h, .inr (5, [.ref qs, .ref qg, .ref qd, .ref hc0, .int (nI pc), .int (nI 0), .int (nI 0), .int (nI rp)])), (qs, .inl (G.2.2.1 0, 8, .inl (nA S))), (qg, .inl (G.2.2.1 0, 8, .inl (nA B))), (qd, .inl (G.2.2.1 0, 8, .inl (nA D))), (hc0, .inr (4, [.ref qc])), (qc, .inl (G.2.2.1 0, 7, .inl (nA c0)))]) := by
  refine gOf (maxL := 3) (ret := (some .int)) (cc := cX2_inForce) (by decide) rfl (Nat.le_of_ble_eq_true rfl) ?_
  intro P9 e9 s m9 args below meth c9 A ls H locs Q hQ hx hb hml hr hown hts hlocks hin hK hP hD hS hA hE hl
  have hown : s.vm.findClass RX2 = some m9.cls := hown
  have hl : lv_has ls 3 [(0, .ref h)] := hl
  refine lv_iconst (v := nI 0) hx hb dX2_inForce_0 (by decide) ?_
  refine lv_istore_n (lv' := [(1, .int (nI 0)), (0, .ref h)]) hx hb dX2_inForce_1 rfl hl (by decide) rfl (fun ls hl => ?_)
  refine lv_iconst (v := nI 0) hx hb dX2_inForce_2 (by decide) ?_
  refine lv_istore_n (lv' := [(2, .int (nI 0)), (1, .int (nI 0)), (0, .ref h)]) hx hb dX2_inForce_3 rfl hl (by decide) rfl (fun ls hl => ?_)
  suffices L1 : ∀ (n i : Nat), i + n = pc → ∀ (H : Heap) (locs : List Loc), va_P (gD G) vwCl [(h, .inr (5, [.ref qs, .ref qg, .ref qd, .ref hc0, .int (nI pc), .int (nI 0), .int (nI 0), .int (nI rp)])), (qs, .inl (G.2.2.1 0, 8, .inl (nA S))), (qg, .inl (G.2.2.1 0, 8, .inl (nA B))), (qd, .inl (G.2.2.1 0, 8, .inl (nA D))), (hc0, .inr (4, [.ref qc])), (qc, .inl (G.2.2.1 0, 7, .inl (nA c0)))] H → va_D A [(h, .inr (5, [.ref qs, .ref qg, .ref qd, .ref hc0, .int (nI pc), .int (nI 0), .int (nI 0), .int (nI rp)])), (qs, .inl (G.2.2.1 0, 8, .inl (nA S))), (qg, .inl (G.2.2.1 0, 8, .inl (nA B))), (qd, .inl (G.2.2.1 0, 8, .inl (nA D))), (hc0, .inr (4, [.ref qc])), (qc, .inl (G.2.2.1 0, 7, .inl (nA c0)))] → va_S A s.heap H locs → ∀ ls : Array Slot, lv_has ls 3 [(0, .ref h), (1, .int (nI (2 ^ i - 1))), (2, .int (nI i))] → W P9 l e9 rm_c_Per_inForce s m9 args below meth c9 H locs 0 0 Q (F0 m9 4 ls []) by
    exact L1 _ 0  (Nat.add_sub_cancel' (by omega))  _ _ (hP.sub [0, 1, 2, 3, 4, 5] rfl) (hD.sub [0, 1, 2, 3, 4, 5] (by decide) rfl) hS _ (lv_sub hl [2, 1, 0] rfl)
  intro n
  induction n with
  | zero =>
    intro i hi H locs hP hD hS ls hl
    refine lv_iload_n hx hb dX2_inForce_4 rfl (lv_at hl 2 rfl) ?_
    refine lv_aload_n hx hb dX2_inForce_5 rfl (lv_at hl 0 rfl) ?_
    refine va_get (D := gD G) (ci := 5) (v := .int (nI pc)) (C := RX2) (T := TX2) (N := 8) hx hb hts (by decide +kernel) hown hK hP 0 rfl rfl 4 (by decide) (hts (.fieldLink RX2 28 "Degreewall$Permits" "count" "I") (by decide +kernel)) (fun _ h9 => h9) rfl dX2_inForce_6 ?_
    refine gN_ge (tgt := 32) hx hb dX2_inForce_9 (by decide) (by omega) (by omega) (fun c2 => ?_) (fun c2 => absurd c2 (by omega))
    refine lv_iload_n hx hb dX2_inForce_32 rfl (lv_at hl 1 rfl) ?_
    have e7 : i = pc := by omega
    subst e7
    exact gIret (hQ := hQ) hx hb hr hlocks hP hD hS () trivial (by rfl) [0, 1, 2, 3, 4, 5] (by decide) (by rfl) (Nat.le_of_ble_eq_true rfl) (Nat.le_of_ble_eq_true rfl) dX2_inForce_33
  | succ n ih =>
    intro i hi H locs hP hD hS ls hl
    refine lv_iload_n hx hb dX2_inForce_4 rfl (lv_at hl 2 rfl) ?_
    refine lv_aload_n hx hb dX2_inForce_5 rfl (lv_at hl 0 rfl) ?_
    refine va_get (D := gD G) (ci := 5) (v := .int (nI pc)) (C := RX2) (T := TX2) (N := 8) hx hb hts (by decide +kernel) hown hK hP 0 rfl rfl 4 (by decide) (hts (.fieldLink RX2 28 "Degreewall$Permits" "count" "I") (by decide +kernel)) (fun _ h9 => h9) rfl dX2_inForce_6 ?_
    refine gN_ge (tgt := 32) hx hb dX2_inForce_9 (by decide) (by omega) (by omega) (fun c3 => absurd c3 (by omega)) (fun c3 => ?_)
    refine lv_aload_n hx hb dX2_inForce_12 rfl (lv_at hl 0 rfl) ?_
    refine lv_iload_n hx hb dX2_inForce_13 rfl (lv_at hl 2 rfl) ?_
    refine gCV (ci := 5) (q0 := 0) (C := RX2) (As := [.int (nI i)]) (rest := []) (wr := []) hE (c_Per_isInForce l G h qs qg qd hc0 qc S B D c0 pc rp i (by omega) hd) (cwV 1 hts gX2_inForce_X2_isInForce rfl rfl rfl (by decide +kernel) ⟨Nat.le_of_ble_eq_true rfl, Nat.le_of_ble_eq_true rfl⟩) ⟨hx, hb, hml, hown, hts⟩ hK hP hD hS hA [0, 1, 2, 3, 4, 5] [] rfl rfl (by decide) (by decide) (by decide) rfl rfl rfl hl rfl (Nat.le_of_ble_eq_true rfl) dX2_inForce_14 ⟨Nat.le_of_ble_eq_true rfl, Nat.le_of_ble_eq_true rfl⟩ (fun u9 H locs hu hP hD hS => ?_)
    have hP : va_P (gD G) vwCl [(h, .inr (5, [.ref qs, .ref qg, .ref qd, .ref hc0, .int (nI pc), .int (nI 0), .int (nI 0), .int (nI rp)])), (qs, .inl (G.2.2.1 0, 8, .inl (nA S))), (qg, .inl (G.2.2.1 0, 8, .inl (nA B))), (qd, .inl (G.2.2.1 0, 8, .inl (nA D))), (hc0, .inr (4, [.ref qc])), (qc, .inl (G.2.2.1 0, 7, .inl (nA c0)))] H := hP
    have hD : va_D A [(h, .inr (5, [.ref qs, .ref qg, .ref qd, .ref hc0, .int (nI pc), .int (nI 0), .int (nI 0), .int (nI rp)])), (qs, .inl (G.2.2.1 0, 8, .inl (nA S))), (qg, .inl (G.2.2.1 0, 8, .inl (nA B))), (qd, .inl (G.2.2.1 0, 8, .inl (nA D))), (hc0, .inr (4, [.ref qc])), (qc, .inl (G.2.2.1 0, 7, .inl (nA c0)))] := hD
    refine W.eq (g2 := F0 m9 17 ls [.int (nI 1)]) rfl ?_
    refine gN_eq0 (tgt := 26) hx hb dX2_inForce_17 (by decide) (by decide) (fun c4 => absurd c4 (by omega)) (fun c4 => ?_)
    refine lv_iload_n hx hb dX2_inForce_20 rfl (lv_at hl 1 rfl) ?_
    refine lv_iconst (v := nI 1) hx hb dX2_inForce_21 (by decide) ?_
    refine lv_iload_n hx hb dX2_inForce_22 rfl (lv_at hl 2 rfl) ?_
    refine lv_ishl hx hb dX2_inForce_23 ?_
    refine gTop (y := (nI (2 ^ i))) (n_one_shl (by omega)) ?_
    refine lv_ior hx hb dX2_inForce_24 ?_
    refine gTop (y := (nI ((2 ^ i - 1) ||| (2 ^ i)))) (n_or _ _) ?_
    refine lv_istore_n (lv' := [(1, .int (nI ((2 ^ i - 1) ||| (2 ^ i)))), (0, .ref h), (2, .int (nI i))]) hx hb dX2_inForce_25 rfl hl (by decide) rfl (fun ls hl => ?_)
    refine lv_iinc (lv' := [(2, .int (nI (i + 1))), (1, .int (nI ((2 ^ i - 1) ||| (2 ^ i)))), (0, .ref h)]) hx hb dX2_inForce_26 hl (k := 2) rfl (n_inc _) (by decide) rfl (fun ls hl => ?_)
    refine lv_goto (tgt := 4) hx hb dX2_inForce_29 (by decide) ?_
    have e2 : (2 ^ i - 1) ||| 2 ^ i = 2 ^ (i + 1) - 1 := or_mask8 i (by omega)
    rw [e2] at hl
    exact ih (i + 1)  (by omega)  _ _ (hP.sub [0, 1, 2, 3, 4, 5] rfl) (hD.sub [0, 1, 2, 3, 4, 5] (by decide) rfl) hS _ (lv_sub hl [2, 1, 0] rfl)

def rm_c_Per_layOut : Room := { frames := 1, cells := 0, slots := 0, locals := 22 }
set_option maxHeartbeats 4000000 in
set_option maxRecDepth 100000 in
/-- layOut(set) -/
theorem c_Per_layOut (l : Launch) (G : gG) (h : Nat) (qs : Nat) (qg : Nat) (qd : Nat) (hc0 : Nat) (qc : Nat) (S : Nat → Nat) (B : Nat → Nat) (D : Nat → Nat) (c0 : Nat → Nat) (pc : Nat) (rp : Nat) (set : Nat) (hp : pc ≤ 8) (hset : set < 2 ^ 31) (hSB : isP S B pc) : gMet (S := Nat → Nat) l G yX2_layOut wsX2_layOut rm_c_Per_layOut [.ref h, .int (nI set)] [(h, .inr (5, [.ref qs, .ref qg, .ref qd, .ref hc0, .int (nI pc), .int (nI 0), .int (nI 0), .int (nI rp)])), (qs, .inl (G.2.2.1 0, 8, .inl (nA S))), (qg, .inl (G.2.2.1 0, 8, .inl (nA B))), (qd, .inl (G.2.2.1 0, 8, .inl (nA D))), (hc0, .inr (4, [.ref qc])), (qc, .inl (G.2.2.1 0, 7, .inl (nA c0)))] (fun ch => eq7 ch (lay S B set pc)) (fun _ => none) (fun ch => [(h, .inr (5, [.ref qs, .ref qg, .ref qd, .ref hc0, .int (nI pc), .int (nI 0), .int (nI 0), .int (nI rp)])), (qs, .inl (G.2.2.1 0, 8, .inl (nA S))), (qg, .inl (G.2.2.1 0, 8, .inl (nA B))), (qd, .inl (G.2.2.1 0, 8, .inl (nA D))), (hc0, .inr (4, [.ref qc])), (qc, .inl (G.2.2.1 0, 7, .inl (nA ch)))]) := by
  refine gOf (maxL := 3) (ret := none) (cc := cX2_layOut) (by decide) rfl (Nat.le_of_ble_eq_true rfl) ?_
  intro P9 e9 s m9 args below meth c9 A ls H locs Q hQ hx hb hml hr hown hts hlocks hin hK hP hD hS hA hE hl
  have hown : s.vm.findClass RX2 = some m9.cls := hown
  have hl : lv_has ls 3 [(0, .ref h), (1, .int (nI set))] := hl
  refine lv_aload_n hx hb dX2_layOut_0 rfl (lv_at hl 0 rfl) ?_
  refine va_get (D := gD G) (ci := 5) (v := .ref hc0) (C := RX2) (T := TX2) (N := 8) hx hb hts (by decide +kernel) hown hK hP 0 rfl rfl 3 (by decide) (hts (.fieldLink RX2 24 "Degreewall$Permits" "chains" "LDegreewall$Links;") (by decide +kernel)) (fun _ h9 => h9) rfl dX2_layOut_1 ?_
  refine gCV (ci := 4) (q0 := 0) (C := RX1) (As := []) (rest := []) (wr := [(h, .inr (5, [.ref qs, .ref qg, .ref qd, .ref hc0, .int (nI pc), .int (nI 0), .int (nI 0), .int (nI rp)])), (qs, .inl (G.2.2.1 0, 8, .inl (nA S))), (qg, .inl (G.2.2.1 0, 8, .inl (nA B))), (qd, .inl (G.2.2.1 0, 8, .inl (nA D)))]) hE (c_Links_cutAll l G hc0 qc c0) (cwV 0 hts gX2_layOut_X1_cutAll rfl rfl rfl (by decide +kernel) ⟨Nat.le_of_ble_eq_true rfl, Nat.le_of_ble_eq_true rfl⟩) ⟨hx, hb, hml, hown, hts⟩ hK hP hD hS hA [4, 5] [0, 1, 2, 3] rfl rfl (by decide) (by decide) (by decide) rfl rfl rfl hl rfl (Nat.le_of_ble_eq_true rfl) dX2_layOut_4 ⟨Nat.le_of_ble_eq_true rfl, Nat.le_of_ble_eq_true rfl⟩ (fun g1 H locs hu hP hD hS => ?_)
  have hg1 : ∀ j, j < 7 → g1 j = 0 := hu
  have hP : va_P (gD G) vwCl [(h, .inr (5, [.ref qs, .ref qg, .ref qd, .ref hc0, .int (nI pc), .int (nI 0), .int (nI 0), .int (nI rp)])), (qs, .inl (G.2.2.1 0, 8, .inl (nA S))), (qg, .inl (G.2.2.1 0, 8, .inl (nA B))), (qd, .inl (G.2.2.1 0, 8, .inl (nA D))), (hc0, .inr (4, [.ref qc])), (qc, .inl (G.2.2.1 0, 7, .inl (nA g1)))] H := hP
  have hD : va_D A [(h, .inr (5, [.ref qs, .ref qg, .ref qd, .ref hc0, .int (nI pc), .int (nI 0), .int (nI 0), .int (nI rp)])), (qs, .inl (G.2.2.1 0, 8, .inl (nA S))), (qg, .inl (G.2.2.1 0, 8, .inl (nA B))), (qd, .inl (G.2.2.1 0, 8, .inl (nA D))), (hc0, .inr (4, [.ref qc])), (qc, .inl (G.2.2.1 0, 7, .inl (nA g1)))] := hD
  refine W.eq (g2 := F0 m9 7 ls []) rfl ?_
  refine lv_iconst (v := nI 0) hx hb dX2_layOut_7 (by decide) ?_
  refine lv_istore_n (lv' := [(2, .int (nI 0)), (0, .ref h), (1, .int (nI set))]) hx hb dX2_layOut_8 rfl hl (by decide) rfl (fun ls hl => ?_)
  suffices L2 : ∀ (n i : Nat) (ch : Nat → Nat), i + n = pc → (eq7 ch (lay S B set i)) → ∀ (H : Heap) (locs : List Loc), va_P (gD G) vwCl [(h, .inr (5, [.ref qs, .ref qg, .ref qd, .ref hc0, .int (nI pc), .int (nI 0), .int (nI 0), .int (nI rp)])), (qs, .inl (G.2.2.1 0, 8, .inl (nA S))), (qg, .inl (G.2.2.1 0, 8, .inl (nA B))), (qd, .inl (G.2.2.1 0, 8, .inl (nA D))), (hc0, .inr (4, [.ref qc])), (qc, .inl (G.2.2.1 0, 7, .inl (nA ch)))] H → va_D A [(h, .inr (5, [.ref qs, .ref qg, .ref qd, .ref hc0, .int (nI pc), .int (nI 0), .int (nI 0), .int (nI rp)])), (qs, .inl (G.2.2.1 0, 8, .inl (nA S))), (qg, .inl (G.2.2.1 0, 8, .inl (nA B))), (qd, .inl (G.2.2.1 0, 8, .inl (nA D))), (hc0, .inr (4, [.ref qc])), (qc, .inl (G.2.2.1 0, 7, .inl (nA ch)))] → va_S A s.heap H locs → ∀ ls : Array Slot, lv_has ls 3 [(0, .ref h), (1, .int (nI set)), (2, .int (nI i))] → W P9 l e9 rm_c_Per_layOut s m9 args below meth c9 H locs 0 0 Q (F0 m9 9 ls []) by
    exact L2 _ 0 (g1) (Nat.add_sub_cancel' (by omega)) hg1 _ _ (hP.sub [0, 1, 2, 3, 4, 5] rfl) (hD.sub [0, 1, 2, 3, 4, 5] (by decide) rfl) hS _ (lv_sub hl [1, 2, 0] rfl)
  intro n
  induction n with
  | zero =>
    intro i ch hi hc H locs hP hD hS ls hl
    refine lv_iload_n hx hb dX2_layOut_9 rfl (lv_at hl 2 rfl) ?_
    refine lv_aload_n hx hb dX2_layOut_10 rfl (lv_at hl 0 rfl) ?_
    refine va_get (D := gD G) (ci := 5) (v := .int (nI pc)) (C := RX2) (T := TX2) (N := 8) hx hb hts (by decide +kernel) hown hK hP 0 rfl rfl 4 (by decide) (hts (.fieldLink RX2 28 "Degreewall$Permits" "count" "I") (by decide +kernel)) (fun _ h9 => h9) rfl dX2_layOut_11 ?_
    refine gN_ge (tgt := 50) hx hb dX2_layOut_14 (by decide) (by omega) (by omega) (fun c3 => ?_) (fun c3 => absurd c3 (by omega))
    have e7 : i = pc := by omega
    subst e7
    exact gVret (hQ := hQ) hx hb hr hlocks hP hD hS ch hc (by rfl) [0, 1, 2, 3, 4, 5] (by decide) (by rfl) (Nat.le_of_ble_eq_true rfl) (Nat.le_of_ble_eq_true rfl) dX2_layOut_50
  | succ n ih =>
    intro i ch hi hc H locs hP hD hS ls hl
    refine lv_iload_n hx hb dX2_layOut_9 rfl (lv_at hl 2 rfl) ?_
    refine lv_aload_n hx hb dX2_layOut_10 rfl (lv_at hl 0 rfl) ?_
    refine va_get (D := gD G) (ci := 5) (v := .int (nI pc)) (C := RX2) (T := TX2) (N := 8) hx hb hts (by decide +kernel) hown hK hP 0 rfl rfl 4 (by decide) (hts (.fieldLink RX2 28 "Degreewall$Permits" "count" "I") (by decide +kernel)) (fun _ h9 => h9) rfl dX2_layOut_11 ?_
    refine gN_ge (tgt := 50) hx hb dX2_layOut_14 (by decide) (by omega) (by omega) (fun c4 => absurd c4 (by omega)) (fun c4 => ?_)
    refine lv_iload_n hx hb dX2_layOut_17 rfl (lv_at hl 1 rfl) ?_
    refine lv_iload_n hx hb dX2_layOut_18 rfl (lv_at hl 2 rfl) ?_
    refine gCSN (As := [.int (nI set), .int (nI i)]) (rest := []) (wr := [(h, .inr (5, [.ref qs, .ref qg, .ref qd, .ref hc0, .int (nI pc), .int (nI 0), .int (nI 0), .int (nI rp)])), (qs, .inl (G.2.2.1 0, 8, .inl (nA S))), (qg, .inl (G.2.2.1 0, 8, .inl (nA B))), (qd, .inl (G.2.2.1 0, 8, .inl (nA D))), (hc0, .inr (4, [.ref qc])), (qc, .inl (G.2.2.1 0, 7, .inl (nA ch)))]) hE (c_contains l G set i (by omega) (by omega)) ⟨va_cnB 2 hts ggX2_layOut_X6_contains rfl rfl rfl (hE.nest 8 rfl) (hts (.initialized RX6) (by decide +kernel)) (by decide +kernel) ⟨Nat.le_of_ble_eq_true rfl, Nat.le_of_ble_eq_true rfl⟩, (hts (.static yX6_contains) (by decide +kernel)), trivial⟩ ⟨hx, hb, hml, hown, hts⟩ hK hP hD hS hA [] [0, 1, 2, 3, 4, 5] rfl rfl (by decide) (by decide) (by decide) rfl hl rfl (Nat.le_of_ble_eq_true rfl) dX2_layOut_19 ⟨Nat.le_of_ble_eq_true rfl, Nat.le_of_ble_eq_true rfl⟩ (fun u9 H locs hu hP hD hS => ?_)
    have hP : va_P (gD G) vwCl [(h, .inr (5, [.ref qs, .ref qg, .ref qd, .ref hc0, .int (nI pc), .int (nI 0), .int (nI 0), .int (nI rp)])), (qs, .inl (G.2.2.1 0, 8, .inl (nA S))), (qg, .inl (G.2.2.1 0, 8, .inl (nA B))), (qd, .inl (G.2.2.1 0, 8, .inl (nA D))), (hc0, .inr (4, [.ref qc])), (qc, .inl (G.2.2.1 0, 7, .inl (nA ch)))] H := hP
    have hD : va_D A [(h, .inr (5, [.ref qs, .ref qg, .ref qd, .ref hc0, .int (nI pc), .int (nI 0), .int (nI 0), .int (nI rp)])), (qs, .inl (G.2.2.1 0, 8, .inl (nA S))), (qg, .inl (G.2.2.1 0, 8, .inl (nA B))), (qd, .inl (G.2.2.1 0, 8, .inl (nA D))), (hc0, .inr (4, [.ref qc])), (qc, .inl (G.2.2.1 0, 7, .inl (nA ch)))] := hD
    refine W.eq (g2 := F0 m9 22 ls [.int (nI ((set.testBit i).toNat))]) rfl ?_
    have hb1 : (set.testBit i).toNat < 2 ^ 31 := Nat.lt_of_le_of_lt (Bool.toNat_le _) (by decide)
    have hSi := hSB i (by omega)
    refine gN_eq0 (tgt := 44) hx hb dX2_layOut_22 (by decide) (by omega) (fun c5 => ?_) (fun c5 => ?_)
    · refine lv_iinc (lv' := [(2, .int (nI (i + 1))), (0, .ref h), (1, .int (nI set))]) hx hb dX2_layOut_44 hl (k := 2) rfl (n_inc _) (by decide) rfl (fun ls hl => ?_)
      refine lv_goto (tgt := 9) hx hb dX2_layOut_47 (by decide) ?_
      exact ih (i + 1) ch (by omega) (fun j hj => by rw [hc j hj, lay_f (tb_f c5)]) _ _ (hP.sub [0, 1, 2, 3, 4, 5] rfl) (hD.sub [0, 1, 2, 3, 4, 5] (by decide) rfl) hS _ (lv_sub hl [1, 2, 0] rfl)
    · refine lv_aload_n hx hb dX2_layOut_25 rfl (lv_at hl 0 rfl) ?_
      refine va_get (D := gD G) (ci := 5) (v := .ref hc0) (C := RX2) (T := TX2) (N := 8) hx hb hts (by decide +kernel) hown hK hP 0 rfl rfl 3 (by decide) (hts (.fieldLink RX2 24 "Degreewall$Permits" "chains" "LDegreewall$Links;") (by decide +kernel)) (fun _ h9 => h9) rfl dX2_layOut_26 ?_
      refine lv_aload_n hx hb dX2_layOut_29 rfl (lv_at hl 0 rfl) ?_
      refine va_get (D := gD G) (ci := 5) (v := .ref qs) (C := RX2) (T := TX2) (N := 8) hx hb hts (by decide +kernel) hown hK hP 0 rfl rfl 0 (by decide) (hts (.fieldLink RX2 9 "Degreewall$Permits" "smaller" "[I") (by decide +kernel)) (fun _ h9 => h9) rfl dX2_layOut_30 ?_
      refine lv_iload_n hx hb dX2_layOut_33 rfl (lv_at hl 2 rfl) ?_
      refine gN_iald hx hb hK hP 1 0 rfl rfl (by omega) (by decide) dX2_layOut_34 ?_
      refine lv_aload_n hx hb dX2_layOut_35 rfl (lv_at hl 0 rfl) ?_
      refine va_get (D := gD G) (ci := 5) (v := .ref qg) (C := RX2) (T := TX2) (N := 8) hx hb hts (by decide +kernel) hown hK hP 0 rfl rfl 1 (by decide) (hts (.fieldLink RX2 15 "Degreewall$Permits" "greater" "[I") (by decide +kernel)) (fun _ h9 => h9) rfl dX2_layOut_36 ?_
      refine lv_iload_n hx hb dX2_layOut_39 rfl (lv_at hl 2 rfl) ?_
      refine gN_iald hx hb hK hP 2 0 rfl rfl (by omega) (by decide) dX2_layOut_40 ?_
      refine gCV (ci := 4) (q0 := 0) (C := RX1) (As := [.int (nI (S i)), .int (nI (B i))]) (rest := []) (wr := [(h, .inr (5, [.ref qs, .ref qg, .ref qd, .ref hc0, .int (nI pc), .int (nI 0), .int (nI 0), .int (nI rp)])), (qs, .inl (G.2.2.1 0, 8, .inl (nA S))), (qg, .inl (G.2.2.1 0, 8, .inl (nA B))), (qd, .inl (G.2.2.1 0, 8, .inl (nA D)))]) hE (c_Links_link l G hc0 qc ch (S i) (B i) (by omega) (by omega)) (cwV 2 hts gX2_layOut_X1_link rfl rfl rfl (by decide +kernel) ⟨Nat.le_of_ble_eq_true rfl, Nat.le_of_ble_eq_true rfl⟩) ⟨hx, hb, hml, hown, hts⟩ hK hP hD hS hA [4, 5] [0, 1, 2, 3] rfl rfl (by decide) (by decide) (by decide) rfl rfl rfl hl rfl (Nat.le_of_ble_eq_true rfl) dX2_layOut_41 ⟨Nat.le_of_ble_eq_true rfl, Nat.le_of_ble_eq_true rfl⟩ (fun u9 H locs hu hP hD hS => ?_)
      have hP : va_P (gD G) vwCl [(h, .inr (5, [.ref qs, .ref qg, .ref qd, .ref hc0, .int (nI pc), .int (nI 0), .int (nI 0), .int (nI rp)])), (qs, .inl (G.2.2.1 0, 8, .inl (nA S))), (qg, .inl (G.2.2.1 0, 8, .inl (nA B))), (qd, .inl (G.2.2.1 0, 8, .inl (nA D))), (hc0, .inr (4, [.ref qc])), (qc, .inl (G.2.2.1 0, 7, .inl (nA (lnk ch (S i) (B i)))))] H := hP
      have hD : va_D A [(h, .inr (5, [.ref qs, .ref qg, .ref qd, .ref hc0, .int (nI pc), .int (nI 0), .int (nI 0), .int (nI rp)])), (qs, .inl (G.2.2.1 0, 8, .inl (nA S))), (qg, .inl (G.2.2.1 0, 8, .inl (nA B))), (qd, .inl (G.2.2.1 0, 8, .inl (nA D))), (hc0, .inr (4, [.ref qc])), (qc, .inl (G.2.2.1 0, 7, .inl (nA (lnk ch (S i) (B i)))))] := hD
      refine W.eq (g2 := F0 m9 44 ls []) rfl ?_
      refine lv_iinc (lv' := [(2, .int (nI (i + 1))), (0, .ref h), (1, .int (nI set))]) hx hb dX2_layOut_44 hl (k := 2) rfl (n_inc _) (by decide) rfl (fun ls hl => ?_)
      refine lv_goto (tgt := 9) hx hb dX2_layOut_47 (by decide) ?_
      exact ih (i + 1) (lnk ch (S i) (B i)) (by omega) (by rw [lay_t (tb_t c5)]; exact eq7_lnk hc hSi.1 hSi.2) _ _ (hP.sub [0, 1, 2, 3, 4, 5] rfl) (hD.sub [0, 1, 2, 3, 4, 5] (by decide) rfl) hS _ (lv_sub hl [1, 2, 0] rfl)

def rm_c_Per_leaksBy : Room := { frames := 3, cells := 0, slots := 0, locals := 68 }
set_option maxHeartbeats 4000000 in
set_option maxRecDepth 100000 in
/-- leaksBy(set, kinship) -/
theorem c_Per_leaksBy (l : Launch) (G : gG) (h : Nat) (qs : Nat) (qg : Nat) (qd : Nat) (hc0 : Nat) (qc : Nat) (S : Nat → Nat) (B : Nat → Nat) (D : Nat → Nat) (c0 : Nat → Nat) (pc : Nat) (rp : Nat) (hk : Nat) (hl0 : Nat) (qn : Nat) (qb : Nat) (f : Nat → Nat) (g : Nat → Nat) (cnt : Nat) (br : Nat) (set : Nat) (hp : pc ≤ 8) (hset : set < 2 ^ 31) (hSB : isP S B pc) (hg : m7 g) (hcnt : cnt ≤ 7) : gMet (S := (Nat → Nat) × Nat) l G yX2_leaksBy wsX2_leaksBy rm_c_Per_leaksBy [.ref h, .int (nI set), .ref hk] [(h, .inr (5, [.ref qs, .ref qg, .ref qd, .ref hc0, .int (nI pc), .int (nI 0), .int (nI 0), .int (nI rp)])), (qs, .inl (G.2.2.1 0, 8, .inl (nA S))), (qg, .inl (G.2.2.1 0, 8, .inl (nA B))), (qd, .inl (G.2.2.1 0, 8, .inl (nA D))), (hc0, .inr (4, [.ref qc])), (qc, .inl (G.2.2.1 0, 7, .inl (nA c0))), (hk, .inr (3, [.ref hl0, .ref qb, .int (nI cnt), .int (nI br)])), (hl0, .inr (4, [.ref qn])), (qn, .inl (G.2.2.1 0, 7, .inl (nA f))), (qb, .inl (G.2.2.1 0, 7, .inl (nA g)))] (fun u => u.2 ≤ 70 ∧ (u.2 = 0 ↔ noLk (lay S B set pc) g cnt)) (fun u => some (.int (nI u.2))) (fun u => [(h, .inr (5, [.ref qs, .ref qg, .ref qd, .ref hc0, .int (nI pc), .int (nI 0), .int (nI 0), .int (nI rp)])), (qs, .inl (G.2.2.1 0, 8, .inl (nA S))), (qg, .inl (G.2.2.1 0, 8, .inl (nA B))), (qd, .inl (G.2.2.1 0, 8, .inl (nA D))), (hc0, .inr (4, [.ref qc])), (qc, .inl (G.2.2.1 0, 7, .inl (nA u.1))), (hk, .inr (3, [.ref hl0, .ref qb, .int (nI cnt), .int (nI br)])), (hl0, .inr (4, [.ref qn])), (qn, .inl (G.2.2.1 0, 7, .inl (nA f))), (qb, .inl (G.2.2.1 0, 7, .inl (nA g)))]) := by
  refine gOf (maxL := 6) (ret := (some .int)) (cc := cX2_leaksBy) (by decide) rfl (Nat.le_of_ble_eq_true rfl) ?_
  intro P9 e9 s m9 args below meth c9 A ls H locs Q hQ hx hb hml hr hown hts hlocks hin hK hP hD hS hA hE hl
  have hown : s.vm.findClass RX2 = some m9.cls := hown
  have hl : lv_has ls 6 [(0, .ref h), (1, .int (nI set)), (2, .ref hk)] := hl
  have hc2 : cnt < 2 ^ 31 := by omega
  refine lv_aload_n hx hb dX2_leaksBy_0 rfl (lv_at hl 0 rfl) ?_
  refine lv_iload_n hx hb dX2_leaksBy_1 rfl (lv_at hl 1 rfl) ?_
  refine gCV (ci := 5) (q0 := 0) (C := RX2) (As := [.int (nI set)]) (rest := []) (wr := [(hk, .inr (3, [.ref hl0, .ref qb, .int (nI cnt), .int (nI br)])), (hl0, .inr (4, [.ref qn])), (qn, .inl (G.2.2.1 0, 7, .inl (nA f))), (qb, .inl (G.2.2.1 0, 7, .inl (nA g)))]) hE (c_Per_layOut l G h qs qg qd hc0 qc S B D c0 pc rp set (by omega) (by omega) hSB) (cwV 1 hts gX2_leaksBy_X2_layOut rfl rfl rfl (by decide +kernel) ⟨Nat.le_of_ble_eq_true rfl, Nat.le_of_ble_eq_true rfl⟩) ⟨hx, hb, hml, hown, hts⟩ hK hP hD hS hA [0, 1, 2, 3, 4, 5] [6, 7, 8, 9] rfl rfl (by decide) (by decide) (by decide) rfl rfl rfl hl rfl (Nat.le_of_ble_eq_true rfl) dX2_leaksBy_2 ⟨Nat.le_of_ble_eq_true rfl, Nat.le_of_ble_eq_true rfl⟩ (fun g1 H locs hu hP hD hS => ?_)
  have hg1 : eq7 g1 (lay S B set pc) := hu
  have hP : va_P (gD G) vwCl [(hk, .inr (3, [.ref hl0, .ref qb, .int (nI cnt), .int (nI br)])), (hl0, .inr (4, [.ref qn])), (qn, .inl (G.2.2.1 0, 7, .inl (nA f))), (qb, .inl (G.2.2.1 0, 7, .inl (nA g))), (h, .inr (5, [.ref qs, .ref qg, .ref qd, .ref hc0, .int (nI pc), .int (nI 0), .int (nI 0), .int (nI rp)])), (qs, .inl (G.2.2.1 0, 8, .inl (nA S))), (qg, .inl (G.2.2.1 0, 8, .inl (nA B))), (qd, .inl (G.2.2.1 0, 8, .inl (nA D))), (hc0, .inr (4, [.ref qc])), (qc, .inl (G.2.2.1 0, 7, .inl (nA g1)))] H := hP
  have hD : va_D A [(hk, .inr (3, [.ref hl0, .ref qb, .int (nI cnt), .int (nI br)])), (hl0, .inr (4, [.ref qn])), (qn, .inl (G.2.2.1 0, 7, .inl (nA f))), (qb, .inl (G.2.2.1 0, 7, .inl (nA g))), (h, .inr (5, [.ref qs, .ref qg, .ref qd, .ref hc0, .int (nI pc), .int (nI 0), .int (nI 0), .int (nI rp)])), (qs, .inl (G.2.2.1 0, 8, .inl (nA S))), (qg, .inl (G.2.2.1 0, 8, .inl (nA B))), (qd, .inl (G.2.2.1 0, 8, .inl (nA D))), (hc0, .inr (4, [.ref qc])), (qc, .inl (G.2.2.1 0, 7, .inl (nA g1)))] := hD
  refine W.eq (g2 := F0 m9 5 ls []) rfl ?_
  refine lv_iconst (v := nI 0) hx hb dX2_leaksBy_5 (by decide) ?_
  refine lv_istore_n (lv' := [(3, .int (nI 0)), (0, .ref h), (1, .int (nI set)), (2, .ref hk)]) hx hb dX2_leaksBy_6 rfl hl (by decide) rfl (fun ls hl => ?_)
  refine lv_iconst (v := nI 0) hx hb dX2_leaksBy_7 (by decide) ?_
  refine lv_istore (lv' := [(4, .int (nI 0)), (3, .int (nI 0)), (0, .ref h), (1, .int (nI set)), (2, .ref hk)]) hx hb dX2_leaksBy_8 hl (by decide) rfl (fun ls hl => ?_)
  suffices L2 : ∀ (n i : Nat) (lk : Nat), i + n = cnt → (lk ≤ 10 * i) → (lk = 0 ↔ noLk (lay S B set pc) g i) → ∀ (H : Heap) (locs : List Loc), va_P (gD G) vwCl [(hk, .inr (3, [.ref hl0, .ref qb, .int (nI cnt), .int (nI br)])), (hl0, .inr (4, [.ref qn])), (qn, .inl (G.2.2.1 0, 7, .inl (nA f))), (qb, .inl (G.2.2.1 0, 7, .inl (nA g))), (h, .inr (5, [.ref qs, .ref qg, .ref qd, .ref hc0, .int (nI pc), .int (nI 0), .int (nI 0), .int (nI rp)])), (qs, .inl (G.2.2.1 0, 8, .inl (nA S))), (qg, .inl (G.2.2.1 0, 8, .inl (nA B))), (qd, .inl (G.2.2.1 0, 8, .inl (nA D))), (hc0, .inr (4, [.ref qc])), (qc, .inl (G.2.2.1 0, 7, .inl (nA g1)))] H → va_D A [(hk, .inr (3, [.ref hl0, .ref qb, .int (nI cnt), .int (nI br)])), (hl0, .inr (4, [.ref qn])), (qn, .inl (G.2.2.1 0, 7, .inl (nA f))), (qb, .inl (G.2.2.1 0, 7, .inl (nA g))), (h, .inr (5, [.ref qs, .ref qg, .ref qd, .ref hc0, .int (nI pc), .int (nI 0), .int (nI 0), .int (nI rp)])), (qs, .inl (G.2.2.1 0, 8, .inl (nA S))), (qg, .inl (G.2.2.1 0, 8, .inl (nA B))), (qd, .inl (G.2.2.1 0, 8, .inl (nA D))), (hc0, .inr (4, [.ref qc])), (qc, .inl (G.2.2.1 0, 7, .inl (nA g1)))] → va_S A s.heap H locs → ∀ ls : Array Slot, lv_has ls 6 [(0, .ref h), (1, .int (nI set)), (2, .ref hk), (3, .int (nI lk)), (4, .int (nI i))] → W P9 l e9 rm_c_Per_leaksBy s m9 args below meth c9 H locs 0 0 Q (F0 m9 10 ls []) by
    exact L2 _ 0 0 (Nat.add_sub_cancel' (by omega)) (Nat.le_refl _) (⟨fun _ i hi => absurd hi (Nat.not_lt_zero i), fun _ => rfl⟩) _ _ (hP.sub [0, 1, 2, 3, 4, 5, 6, 7, 8, 9] rfl) (hD.sub [0, 1, 2, 3, 4, 5, 6, 7, 8, 9] (by decide) rfl) hS _ (lv_sub hl [2, 3, 4, 1, 0] rfl)
  intro n
  induction n with
  | zero =>
    intro i lk hi hlk hlk0 H locs hP hD hS ls hl
    refine lv_iload hx hb dX2_leaksBy_10 (lv_at hl 4 rfl) ?_
    refine lv_aload_n hx hb dX2_leaksBy_12 rfl (lv_at hl 2 rfl) ?_
    refine gCV (ci := 3) (q0 := 0) (C := RX0) (As := []) (rest := [.int (nI i)]) (wr := [(h, .inr (5, [.ref qs, .ref qg, .ref qd, .ref hc0, .int (nI pc), .int (nI 0), .int (nI 0), .int (nI rp)])), (qs, .inl (G.2.2.1 0, 8, .inl (nA S))), (qg, .inl (G.2.2.1 0, 8, .inl (nA B))), (qd, .inl (G.2.2.1 0, 8, .inl (nA D))), (hc0, .inr (4, [.ref qc])), (qc, .inl (G.2.2.1 0, 7, .inl (nA g1)))]) hE (c_Kin_count l G hk hl0 qn qb f g cnt br) (cwV 0 hts gX2_leaksBy_X0_count rfl rfl rfl (by decide +kernel) ⟨Nat.le_of_ble_eq_true rfl, Nat.le_of_ble_eq_true rfl⟩) ⟨hx, hb, hml, hown, hts⟩ hK hP hD hS hA [0, 1, 2, 3] [4, 5, 6, 7, 8, 9] rfl rfl (by decide) (by decide) (by decide) rfl rfl rfl hl rfl (Nat.le_of_ble_eq_true rfl) dX2_leaksBy_13 ⟨Nat.le_of_ble_eq_true rfl, Nat.le_of_ble_eq_true rfl⟩ (fun u9 H locs hu hP hD hS => ?_)
    have hP : va_P (gD G) vwCl [(h, .inr (5, [.ref qs, .ref qg, .ref qd, .ref hc0, .int (nI pc), .int (nI 0), .int (nI 0), .int (nI rp)])), (qs, .inl (G.2.2.1 0, 8, .inl (nA S))), (qg, .inl (G.2.2.1 0, 8, .inl (nA B))), (qd, .inl (G.2.2.1 0, 8, .inl (nA D))), (hc0, .inr (4, [.ref qc])), (qc, .inl (G.2.2.1 0, 7, .inl (nA g1))), (hk, .inr (3, [.ref hl0, .ref qb, .int (nI cnt), .int (nI br)])), (hl0, .inr (4, [.ref qn])), (qn, .inl (G.2.2.1 0, 7, .inl (nA f))), (qb, .inl (G.2.2.1 0, 7, .inl (nA g)))] H := hP
    have hD : va_D A [(h, .inr (5, [.ref qs, .ref qg, .ref qd, .ref hc0, .int (nI pc), .int (nI 0), .int (nI 0), .int (nI rp)])), (qs, .inl (G.2.2.1 0, 8, .inl (nA S))), (qg, .inl (G.2.2.1 0, 8, .inl (nA B))), (qd, .inl (G.2.2.1 0, 8, .inl (nA D))), (hc0, .inr (4, [.ref qc])), (qc, .inl (G.2.2.1 0, 7, .inl (nA g1))), (hk, .inr (3, [.ref hl0, .ref qb, .int (nI cnt), .int (nI br)])), (hl0, .inr (4, [.ref qn])), (qn, .inl (G.2.2.1 0, 7, .inl (nA f))), (qb, .inl (G.2.2.1 0, 7, .inl (nA g)))] := hD
    refine W.eq (g2 := F0 m9 16 ls [.int (nI cnt), .int (nI i)]) rfl ?_
    refine gN_ge (tgt := 63) hx hb dX2_leaksBy_16 (by decide) (by omega) (by omega) (fun c3 => ?_) (fun c3 => absurd c3 (by omega))
    refine lv_iload_n hx hb dX2_leaksBy_63 rfl (lv_at hl 3 rfl) ?_
    have e7 : i = cnt := by omega
    subst e7
    exact gIret (hQ := hQ) hx hb hr hlocks hP hD hS (g1, lk) ⟨by omega, hlk0⟩ (by rfl) [0, 1, 2, 3, 4, 5, 6, 7, 8, 9] (by decide) (by rfl) (Nat.le_of_ble_eq_true rfl) (Nat.le_of_ble_eq_true rfl) dX2_leaksBy_64
  | succ n ih =>
    intro i lk hi hlk hlk0 H locs hP hD hS ls hl
    refine lv_iload hx hb dX2_leaksBy_10 (lv_at hl 4 rfl) ?_
    refine lv_aload_n hx hb dX2_leaksBy_12 rfl (lv_at hl 2 rfl) ?_
    refine gCV (ci := 3) (q0 := 0) (C := RX0) (As := []) (rest := [.int (nI i)]) (wr := [(h, .inr (5, [.ref qs, .ref qg, .ref qd, .ref hc0, .int (nI pc), .int (nI 0), .int (nI 0), .int (nI rp)])), (qs, .inl (G.2.2.1 0, 8, .inl (nA S))), (qg, .inl (G.2.2.1 0, 8, .inl (nA B))), (qd, .inl (G.2.2.1 0, 8, .inl (nA D))), (hc0, .inr (4, [.ref qc])), (qc, .inl (G.2.2.1 0, 7, .inl (nA g1)))]) hE (c_Kin_count l G hk hl0 qn qb f g cnt br) (cwV 0 hts gX2_leaksBy_X0_count rfl rfl rfl (by decide +kernel) ⟨Nat.le_of_ble_eq_true rfl, Nat.le_of_ble_eq_true rfl⟩) ⟨hx, hb, hml, hown, hts⟩ hK hP hD hS hA [0, 1, 2, 3] [4, 5, 6, 7, 8, 9] rfl rfl (by decide) (by decide) (by decide) rfl rfl rfl hl rfl (Nat.le_of_ble_eq_true rfl) dX2_leaksBy_13 ⟨Nat.le_of_ble_eq_true rfl, Nat.le_of_ble_eq_true rfl⟩ (fun u9 H locs hu hP hD hS => ?_)
    have hP : va_P (gD G) vwCl [(h, .inr (5, [.ref qs, .ref qg, .ref qd, .ref hc0, .int (nI pc), .int (nI 0), .int (nI 0), .int (nI rp)])), (qs, .inl (G.2.2.1 0, 8, .inl (nA S))), (qg, .inl (G.2.2.1 0, 8, .inl (nA B))), (qd, .inl (G.2.2.1 0, 8, .inl (nA D))), (hc0, .inr (4, [.ref qc])), (qc, .inl (G.2.2.1 0, 7, .inl (nA g1))), (hk, .inr (3, [.ref hl0, .ref qb, .int (nI cnt), .int (nI br)])), (hl0, .inr (4, [.ref qn])), (qn, .inl (G.2.2.1 0, 7, .inl (nA f))), (qb, .inl (G.2.2.1 0, 7, .inl (nA g)))] H := hP
    have hD : va_D A [(h, .inr (5, [.ref qs, .ref qg, .ref qd, .ref hc0, .int (nI pc), .int (nI 0), .int (nI 0), .int (nI rp)])), (qs, .inl (G.2.2.1 0, 8, .inl (nA S))), (qg, .inl (G.2.2.1 0, 8, .inl (nA B))), (qd, .inl (G.2.2.1 0, 8, .inl (nA D))), (hc0, .inr (4, [.ref qc])), (qc, .inl (G.2.2.1 0, 7, .inl (nA g1))), (hk, .inr (3, [.ref hl0, .ref qb, .int (nI cnt), .int (nI br)])), (hl0, .inr (4, [.ref qn])), (qn, .inl (G.2.2.1 0, 7, .inl (nA f))), (qb, .inl (G.2.2.1 0, 7, .inl (nA g)))] := hD
    refine W.eq (g2 := F0 m9 16 ls [.int (nI cnt), .int (nI i)]) rfl ?_
    refine gN_ge (tgt := 63) hx hb dX2_leaksBy_16 (by decide) (by omega) (by omega) (fun c4 => absurd c4 (by omega)) (fun c4 => ?_)
    refine lv_aload_n hx hb dX2_leaksBy_19 rfl (lv_at hl 2 rfl) ?_
    refine lv_iload hx hb dX2_leaksBy_20 (lv_at hl 4 rfl) ?_
    refine gCV (ci := 3) (q0 := 0) (C := RX0) (As := [.int (nI i)]) (rest := []) (wr := [(h, .inr (5, [.ref qs, .ref qg, .ref qd, .ref hc0, .int (nI pc), .int (nI 0), .int (nI 0), .int (nI rp)])), (qs, .inl (G.2.2.1 0, 8, .inl (nA S))), (qg, .inl (G.2.2.1 0, 8, .inl (nA B))), (qd, .inl (G.2.2.1 0, 8, .inl (nA D))), (hc0, .inr (4, [.ref qc])), (qc, .inl (G.2.2.1 0, 7, .inl (nA g1)))]) hE (c_Kin_within l G hk hl0 qn qb f g cnt br i (by omega)) (cwV 1 hts gX2_leaksBy_X0_within rfl rfl rfl (by decide +kernel) ⟨Nat.le_of_ble_eq_true rfl, Nat.le_of_ble_eq_true rfl⟩) ⟨hx, hb, hml, hown, hts⟩ hK hP hD hS hA [6, 7, 8, 9] [0, 1, 2, 3, 4, 5] rfl rfl (by decide) (by decide) (by decide) rfl rfl rfl hl rfl (Nat.le_of_ble_eq_true rfl) dX2_leaksBy_22 ⟨Nat.le_of_ble_eq_true rfl, Nat.le_of_ble_eq_true rfl⟩ (fun u9 H locs hu hP hD hS => ?_)
    have hP : va_P (gD G) vwCl [(h, .inr (5, [.ref qs, .ref qg, .ref qd, .ref hc0, .int (nI pc), .int (nI 0), .int (nI 0), .int (nI rp)])), (qs, .inl (G.2.2.1 0, 8, .inl (nA S))), (qg, .inl (G.2.2.1 0, 8, .inl (nA B))), (qd, .inl (G.2.2.1 0, 8, .inl (nA D))), (hc0, .inr (4, [.ref qc])), (qc, .inl (G.2.2.1 0, 7, .inl (nA g1))), (hk, .inr (3, [.ref hl0, .ref qb, .int (nI cnt), .int (nI br)])), (hl0, .inr (4, [.ref qn])), (qn, .inl (G.2.2.1 0, 7, .inl (nA f))), (qb, .inl (G.2.2.1 0, 7, .inl (nA g)))] H := hP
    have hD : va_D A [(h, .inr (5, [.ref qs, .ref qg, .ref qd, .ref hc0, .int (nI pc), .int (nI 0), .int (nI 0), .int (nI rp)])), (qs, .inl (G.2.2.1 0, 8, .inl (nA S))), (qg, .inl (G.2.2.1 0, 8, .inl (nA B))), (qd, .inl (G.2.2.1 0, 8, .inl (nA D))), (hc0, .inr (4, [.ref qc])), (qc, .inl (G.2.2.1 0, 7, .inl (nA g1))), (hk, .inr (3, [.ref hl0, .ref qb, .int (nI cnt), .int (nI br)])), (hl0, .inr (4, [.ref qn])), (qn, .inl (G.2.2.1 0, 7, .inl (nA f))), (qb, .inl (G.2.2.1 0, 7, .inl (nA g)))] := hD
    refine W.eq (g2 := F0 m9 25 ls [.int (nI (g i))]) rfl ?_
    refine lv_istore (lv' := [(5, .int (nI (g i))), (0, .ref h), (1, .int (nI set)), (2, .ref hk), (3, .int (nI lk)), (4, .int (nI i))]) hx hb dX2_leaksBy_25 hl (by decide) rfl (fun ls hl => ?_)
    have hgi := hg i (by omega)
    refine lv_iload hx hb dX2_leaksBy_27 (lv_at hl 0 rfl) ?_
    refine gN_eq0 (tgt := 57) hx hb dX2_leaksBy_29 (by decide) (by omega) (fun c5 => ?_) (fun c5 => ?_)
    · refine lv_iinc (lv' := [(4, .int (nI (i + 1))), (5, .int (nI (g i))), (0, .ref h), (1, .int (nI set)), (2, .ref hk), (3, .int (nI lk))]) hx hb dX2_leaksBy_57 hl (k := 5) rfl (n_inc _) (by decide) rfl (fun ls hl => ?_)
      refine lv_goto (tgt := 10) hx hb dX2_leaksBy_60 (by decide) ?_
      exact ih (i + 1) lk (by omega) (by omega) (⟨fun z j hj => by rcases Nat.lt_or_ge j i with y | y; (exact hlk0.mp z j y); (have e : j = i := (by omega); subst e; unfold noL1; rw [c5, Nat.and_zero, Nat.zero_div]), fun z => hlk0.mpr (fun j hj => z j (by omega))⟩) _ _ (hP.sub [6, 7, 8, 9, 0, 1, 2, 3, 4, 5] rfl) (hD.sub [6, 7, 8, 9, 0, 1, 2, 3, 4, 5] (by decide) rfl) hS _ (lv_sub hl [2, 3, 4, 5, 0] rfl)
    · refine lv_iload_n hx hb dX2_leaksBy_32 rfl (lv_at hl 4 rfl) ?_
      refine lv_aload_n hx hb dX2_leaksBy_33 rfl (lv_at hl 1 rfl) ?_
      refine va_get (D := gD G) (ci := 5) (v := .ref hc0) (C := RX2) (T := TX2) (N := 8) hx hb hts (by decide +kernel) hown hK hP 0 rfl rfl 3 (by decide) (hts (.fieldLink RX2 24 "Degreewall$Permits" "chains" "LDegreewall$Links;") (by decide +kernel)) (fun _ h9 => h9) rfl dX2_leaksBy_34 ?_
      refine lv_iload hx hb dX2_leaksBy_37 (lv_at hl 5 rfl) ?_
      refine lv_bipush (v := nI 7) hx hb dX2_leaksBy_39 (by decide) ?_
      refine gCV (ci := 4) (q0 := 0) (C := RX1) (As := [.int (nI i), .int (nI 7)]) (rest := [.int (nI lk)]) (wr := [(h, .inr (5, [.ref qs, .ref qg, .ref qd, .ref hc0, .int (nI pc), .int (nI 0), .int (nI 0), .int (nI rp)])), (qs, .inl (G.2.2.1 0, 8, .inl (nA S))), (qg, .inl (G.2.2.1 0, 8, .inl (nA B))), (qd, .inl (G.2.2.1 0, 8, .inl (nA D))), (hk, .inr (3, [.ref hl0, .ref qb, .int (nI cnt), .int (nI br)])), (hl0, .inr (4, [.ref qn])), (qn, .inl (G.2.2.1 0, 7, .inl (nA f))), (qb, .inl (G.2.2.1 0, 7, .inl (nA g)))]) hE (c_Links_reach l G hc0 qc g1 i 7 (m7_eq7 hg1 (m7_lay hSB)) (by omega) (by omega)) (cwV 2 hts gX2_leaksBy_X1_reach rfl rfl rfl (by decide +kernel) ⟨Nat.le_of_ble_eq_true rfl, Nat.le_of_ble_eq_true rfl⟩) ⟨hx, hb, hml, hown, hts⟩ hK hP hD hS hA [4, 5] [0, 1, 2, 3, 6, 7, 8, 9] rfl rfl (by decide) (by decide) (by decide) rfl rfl rfl hl rfl (Nat.le_of_ble_eq_true rfl) dX2_leaksBy_41 ⟨Nat.le_of_ble_eq_true rfl, Nat.le_of_ble_eq_true rfl⟩ (fun u9 H locs hu hP hD hS => ?_)
      have hP : va_P (gD G) vwCl [(h, .inr (5, [.ref qs, .ref qg, .ref qd, .ref hc0, .int (nI pc), .int (nI 0), .int (nI 0), .int (nI rp)])), (qs, .inl (G.2.2.1 0, 8, .inl (nA S))), (qg, .inl (G.2.2.1 0, 8, .inl (nA B))), (qd, .inl (G.2.2.1 0, 8, .inl (nA D))), (hk, .inr (3, [.ref hl0, .ref qb, .int (nI cnt), .int (nI br)])), (hl0, .inr (4, [.ref qn])), (qn, .inl (G.2.2.1 0, 7, .inl (nA f))), (qb, .inl (G.2.2.1 0, 7, .inl (nA g))), (hc0, .inr (4, [.ref qc])), (qc, .inl (G.2.2.1 0, 7, .inl (nA g1)))] H := hP
      have hD : va_D A [(h, .inr (5, [.ref qs, .ref qg, .ref qd, .ref hc0, .int (nI pc), .int (nI 0), .int (nI 0), .int (nI rp)])), (qs, .inl (G.2.2.1 0, 8, .inl (nA S))), (qg, .inl (G.2.2.1 0, 8, .inl (nA B))), (qd, .inl (G.2.2.1 0, 8, .inl (nA D))), (hk, .inr (3, [.ref hl0, .ref qb, .int (nI cnt), .int (nI br)])), (hl0, .inr (4, [.ref qn])), (qn, .inl (G.2.2.1 0, 7, .inl (nA f))), (qb, .inl (G.2.2.1 0, 7, .inl (nA g))), (hc0, .inr (4, [.ref qc])), (qc, .inl (G.2.2.1 0, 7, .inl (nA g1)))] := hD
      refine W.eq (g2 := F0 m9 44 ls [.int (nI (rchN g1 (2 ^ i) 7)), .int (nI lk)]) rfl ?_
      have hq1 : rchN g1 (2 ^ i) 7 &&& g i < 128 := Nat.lt_of_le_of_lt Nat.and_le_right hgi
      have hq2 : (rchN g1 (2 ^ i) 7 &&& g i) / 2 ^ (i + 1) < 128 := Nat.lt_of_le_of_lt (Nat.div_le_self _ _) hq1
      refine lv_iload hx hb dX2_leaksBy_44 (lv_at hl 0 rfl) ?_
      refine lv_iand hx hb dX2_leaksBy_46 ?_
      refine gTop (y := (nI ((rchN g1 (2 ^ i) 7) &&& (g i)))) (n_and _ _) ?_
      refine lv_iload hx hb dX2_leaksBy_47 (lv_at hl 5 rfl) ?_
      refine lv_iconst (v := nI 1) hx hb dX2_leaksBy_49 (by decide) ?_
      refine lv_iadd hx hb dX2_leaksBy_50 ?_
      refine gTop (y := (nI (i + 1))) (nI_add _ _) ?_
      refine lv_ishr hx hb dX2_leaksBy_51 ?_
      refine gTop (y := (nI (((rchN g1 (2 ^ i) 7) &&& (g i)) / 2 ^ (i + 1)))) (n_shr (by omega) (by omega)) ?_
      refine gCS (As := [.int (nI (((rchN g1 (2 ^ i) 7) &&& (g i)) / 2 ^ (i + 1)))]) (rest := [.int (nI lk)]) (wr := [(h, .inr (5, [.ref qs, .ref qg, .ref qd, .ref hc0, .int (nI pc), .int (nI 0), .int (nI 0), .int (nI rp)])), (qs, .inl (G.2.2.1 0, 8, .inl (nA S))), (qg, .inl (G.2.2.1 0, 8, .inl (nA B))), (qd, .inl (G.2.2.1 0, 8, .inl (nA D))), (hk, .inr (3, [.ref hl0, .ref qb, .int (nI cnt), .int (nI br)])), (hl0, .inr (4, [.ref qn])), (qn, .inl (G.2.2.1 0, 7, .inl (nA f))), (qb, .inl (G.2.2.1 0, 7, .inl (nA g))), (hc0, .inr (4, [.ref qc])), (qc, .inl (G.2.2.1 0, 7, .inl (nA g1)))]) hE (c_bitCount l G (((rchN g1 (2 ^ i) 7) &&& (g i)) / 2 ^ (i + 1)) (by omega)) (va_cwS 1 hts gX2_leaksBy_J6_bitCount_0f7a4 rfl rfl rfl (by decide +kernel) ⟨Nat.le_of_ble_eq_true rfl, Nat.le_of_ble_eq_true rfl⟩) ⟨hx, hb, hml, hown, hts⟩ hK hP hD hS hA [] [0, 1, 2, 3, 4, 5, 6, 7, 8, 9] rfl rfl (by decide) (by decide) (by decide) rfl hl rfl (Nat.le_of_ble_eq_true rfl) dX2_leaksBy_52 ⟨Nat.le_of_ble_eq_true rfl, Nat.le_of_ble_eq_true rfl⟩ (fun u9 H locs hu hP hD hS => ?_)
      have hP : va_P (gD G) vwCl [(h, .inr (5, [.ref qs, .ref qg, .ref qd, .ref hc0, .int (nI pc), .int (nI 0), .int (nI 0), .int (nI rp)])), (qs, .inl (G.2.2.1 0, 8, .inl (nA S))), (qg, .inl (G.2.2.1 0, 8, .inl (nA B))), (qd, .inl (G.2.2.1 0, 8, .inl (nA D))), (hk, .inr (3, [.ref hl0, .ref qb, .int (nI cnt), .int (nI br)])), (hl0, .inr (4, [.ref qn])), (qn, .inl (G.2.2.1 0, 7, .inl (nA f))), (qb, .inl (G.2.2.1 0, 7, .inl (nA g))), (hc0, .inr (4, [.ref qc])), (qc, .inl (G.2.2.1 0, 7, .inl (nA g1)))] H := hP
      have hD : va_D A [(h, .inr (5, [.ref qs, .ref qg, .ref qd, .ref hc0, .int (nI pc), .int (nI 0), .int (nI 0), .int (nI rp)])), (qs, .inl (G.2.2.1 0, 8, .inl (nA S))), (qg, .inl (G.2.2.1 0, 8, .inl (nA B))), (qd, .inl (G.2.2.1 0, 8, .inl (nA D))), (hk, .inr (3, [.ref hl0, .ref qb, .int (nI cnt), .int (nI br)])), (hl0, .inr (4, [.ref qn])), (qn, .inl (G.2.2.1 0, 7, .inl (nA f))), (qb, .inl (G.2.2.1 0, 7, .inl (nA g))), (hc0, .inr (4, [.ref qc])), (qc, .inl (G.2.2.1 0, 7, .inl (nA g1)))] := hD
      refine W.eq (g2 := F0 m9 55 ls [.int (nI (popc (((rchN g1 (2 ^ i) 7) &&& (g i)) / 2 ^ (i + 1)))), .int (nI lk)]) rfl ?_
      refine lv_iadd hx hb dX2_leaksBy_55 ?_
      refine gTop (y := (nI (lk + popc (((rchN g1 (2 ^ i) 7) &&& (g i)) / 2 ^ (i + 1))))) (nI_add _ _) ?_
      refine lv_istore_n (lv' := [(3, .int (nI (lk + popc (((rchN g1 (2 ^ i) 7) &&& (g i)) / 2 ^ (i + 1))))), (5, .int (nI (g i))), (0, .ref h), (1, .int (nI set)), (2, .ref hk), (4, .int (nI i))]) hx hb dX2_leaksBy_56 rfl hl (by decide) rfl (fun ls hl => ?_)
      refine lv_iinc (lv' := [(4, .int (nI (i + 1))), (3, .int (nI (lk + popc (((rchN g1 (2 ^ i) 7) &&& (g i)) / 2 ^ (i + 1))))), (5, .int (nI (g i))), (0, .ref h), (1, .int (nI set)), (2, .ref hk)]) hx hb dX2_leaksBy_57 hl (k := 5) rfl (n_inc _) (by decide) rfl (fun ls hl => ?_)
      refine lv_goto (tgt := 10) hx hb dX2_leaksBy_60 (by decide) ?_
      have hr9 : rchN g1 (2 ^ i) 7 = rchN (lay S B set pc) (2 ^ i) 7 := rchN_eq7 hg1 _ _
      have hp0 := popc_0 (n := (rchN g1 (2 ^ i) 7 &&& g i) / 2 ^ (i + 1)) (by omega)
      have hp9 := popc_le ((rchN g1 (2 ^ i) 7 &&& g i) / 2 ^ (i + 1))
      exact ih (i + 1) (lk + popc ((rchN g1 (2 ^ i) 7 &&& g i) / 2 ^ (i + 1))) (by omega) (by omega) (⟨fun z j hj => by rcases Nat.lt_or_ge j i with y | y; (exact hlk0.mp (by omega) j y); (have e : j = i := (by omega); subst e; unfold noL1; rw [← hr9]; exact hp0.mp (by omega)), fun z => by rw [hlk0.mpr (fun j hj => z j (by omega)), Nat.zero_add]; exact hp0.mpr (by have := z i (Nat.lt_succ_self i); unfold noL1 at this; rw [hr9]; exact this)⟩) _ _ (hP.sub [4, 5, 6, 7, 0, 1, 2, 3, 8, 9] rfl) (hD.sub [4, 5, 6, 7, 0, 1, 2, 3, 8, 9] (by decide) rfl) hS _ (lv_sub hl [3, 4, 5, 1, 0] rfl)

/-- what findRepair finds -/
def isRep (S B : Nat → Nat) (pc : Nat) (g : Nat → Nat) (cnt rp : Nat) : Prop := rp ≤ 2 ^ pc - 1 ∧ (rp = 2 ^ pc - 1 ∨ noLk (lay S B (clr (2 ^ pc - 1) rp) pc) g cnt) ∧ ∀ t, t < 2 ^ pc - 1 → popc t < popc rp → ¬ noLk (lay S B (clr (2 ^ pc - 1) t) pc) g cnt

def rm_c_Per_findRepair : Room := { frames := 4, cells := 0, slots := 0, locals := 93 }
set_option maxHeartbeats 4000000 in
set_option maxRecDepth 100000 in
/-- findRepair(kinship) -/
theorem c_Per_findRepair (l : Launch) (G : gG) (h : Nat) (qs : Nat) (qg : Nat) (qd : Nat) (hc0 : Nat) (qc : Nat) (S : Nat → Nat) (B : Nat → Nat) (D : Nat → Nat) (c0 : Nat → Nat) (pc : Nat) (rp : Nat) (hk : Nat) (hl0 : Nat) (qn : Nat) (qb : Nat) (f : Nat → Nat) (g : Nat → Nat) (cnt : Nat) (br : Nat) (hp : pc ≤ 8) (hd : ∀ j, j < 8 → D j < 2 ^ 31) (hSB : isP S B pc) (hg : m7 g) (hcnt : cnt ≤ 7) : gMet (S := (Nat → Nat) × Nat) l G yX2_findRepair wsX2_findRepair rm_c_Per_findRepair [.ref h, .ref hk] [(h, .inr (5, [.ref qs, .ref qg, .ref qd, .ref hc0, .int (nI pc), .int (nI 0), .int (nI 0), .int (nI rp)])), (qs, .inl (G.2.2.1 0, 8, .inl (nA S))), (qg, .inl (G.2.2.1 0, 8, .inl (nA B))), (qd, .inl (G.2.2.1 0, 8, .inl (nA D))), (hc0, .inr (4, [.ref qc])), (qc, .inl (G.2.2.1 0, 7, .inl (nA c0))), (hk, .inr (3, [.ref hl0, .ref qb, .int (nI cnt), .int (nI br)])), (hl0, .inr (4, [.ref qn])), (qn, .inl (G.2.2.1 0, 7, .inl (nA f))), (qb, .inl (G.2.2.1 0, 7, .inl (nA g)))] (fun u => isRep S B pc g cnt u.2) (fun _ => none) (fun u => [(h, .inr (5, [.ref qs, .ref qg, .ref qd, .ref hc0, .int (nI pc), .int (nI 0), .int (nI 0), .int (nI u.2)])), (qs, .inl (G.2.2.1 0, 8, .inl (nA S))), (qg, .inl (G.2.2.1 0, 8, .inl (nA B))), (qd, .inl (G.2.2.1 0, 8, .inl (nA D))), (hc0, .inr (4, [.ref qc])), (qc, .inl (G.2.2.1 0, 7, .inl (nA u.1))), (hk, .inr (3, [.ref hl0, .ref qb, .int (nI cnt), .int (nI br)])), (hl0, .inr (4, [.ref qn])), (qn, .inl (G.2.2.1 0, 7, .inl (nA f))), (qb, .inl (G.2.2.1 0, 7, .inl (nA g)))]) := by
  refine gOf (maxL := 6) (ret := none) (cc := cX2_findRepair) (by decide) rfl (Nat.le_of_ble_eq_true rfl) ?_
  intro P9 e9 s m9 args below meth c9 A ls H locs Q hQ hx hb hml hr hown hts hlocks hin hK hP hD hS hA hE hl
  have hown : s.vm.findClass RX2 = some m9.cls := hown
  have hl : lv_has ls 6 [(0, .ref h), (1, .ref hk)] := hl
  have hpw := pow2_le8 pc hp
  have hpos := Nat.two_pow_pos pc
  refine lv_aload_n hx hb dX2_findRepair_0 rfl (lv_at hl 0 rfl) ?_
  refine gCV (ci := 5) (q0 := 0) (C := RX2) (As := []) (rest := []) (wr := [(hk, .inr (3, [.ref hl0, .ref qb, .int (nI cnt), .int (nI br)])), (hl0, .inr (4, [.ref qn])), (qn, .inl (G.2.2.1 0, 7, .inl (nA f))), (qb, .inl (G.2.2.1 0, 7, .inl (nA g)))]) hE (c_Per_inForce l G h qs qg qd hc0 qc S B D c0 pc rp (by omega) hd) (cwV 0 hts gX2_findRepair_X2_inForce rfl rfl rfl (by decide +kernel) ⟨Nat.le_of_ble_eq_true rfl, Nat.le_of_ble_eq_true rfl⟩) ⟨hx, hb, hml, hown, hts⟩ hK hP hD hS hA [0, 1, 2, 3, 4, 5] [6, 7, 8, 9] rfl rfl (by decide) (by decide) (by decide) rfl rfl rfl hl rfl (Nat.le_of_ble_eq_true rfl) dX2_findRepair_1 ⟨Nat.le_of_ble_eq_true rfl, Nat.le_of_ble_eq_true rfl⟩ (fun u9 H locs hu hP hD hS => ?_)
  have hP : va_P (gD G) vwCl [(hk, .inr (3, [.ref hl0, .ref qb, .int (nI cnt), .int (nI br)])), (hl0, .inr (4, [.ref qn])), (qn, .inl (G.2.2.1 0, 7, .inl (nA f))), (qb, .inl (G.2.2.1 0, 7, .inl (nA g))), (h, .inr (5, [.ref qs, .ref qg, .ref qd, .ref hc0, .int (nI pc), .int (nI 0), .int (nI 0), .int (nI rp)])), (qs, .inl (G.2.2.1 0, 8, .inl (nA S))), (qg, .inl (G.2.2.1 0, 8, .inl (nA B))), (qd, .inl (G.2.2.1 0, 8, .inl (nA D))), (hc0, .inr (4, [.ref qc])), (qc, .inl (G.2.2.1 0, 7, .inl (nA c0)))] H := hP
  have hD : va_D A [(hk, .inr (3, [.ref hl0, .ref qb, .int (nI cnt), .int (nI br)])), (hl0, .inr (4, [.ref qn])), (qn, .inl (G.2.2.1 0, 7, .inl (nA f))), (qb, .inl (G.2.2.1 0, 7, .inl (nA g))), (h, .inr (5, [.ref qs, .ref qg, .ref qd, .ref hc0, .int (nI pc), .int (nI 0), .int (nI 0), .int (nI rp)])), (qs, .inl (G.2.2.1 0, 8, .inl (nA S))), (qg, .inl (G.2.2.1 0, 8, .inl (nA B))), (qd, .inl (G.2.2.1 0, 8, .inl (nA D))), (hc0, .inr (4, [.ref qc])), (qc, .inl (G.2.2.1 0, 7, .inl (nA c0)))] := hD
  refine W.eq (g2 := F0 m9 4 ls [.int (nI (2 ^ pc - 1))]) rfl ?_
  refine lv_istore_n (lv' := [(2, .int (nI (2 ^ pc - 1))), (0, .ref h), (1, .ref hk)]) hx hb dX2_findRepair_4 rfl hl (by decide) rfl (fun ls hl => ?_)
  refine lv_iload_n hx hb dX2_findRepair_5 rfl (lv_at hl 0 rfl) ?_
  refine lv_istore_n (lv' := [(3, .int (nI (2 ^ pc - 1))), (2, .int (nI (2 ^ pc - 1))), (0, .ref h), (1, .ref hk)]) hx hb dX2_findRepair_6 rfl hl (by decide) rfl (fun ls hl => ?_)
  refine lv_iconst (v := nI 0) hx hb dX2_findRepair_7 (by decide) ?_
  refine lv_istore (lv' := [(4, .int (nI 0)), (3, .int (nI (2 ^ pc - 1))), (2, .int (nI (2 ^ pc - 1))), (0, .ref h), (1, .ref hk)]) hx hb dX2_findRepair_8 hl (by decide) rfl (fun ls hl => ?_)
  suffices L1 : ∀ (n i : Nat) (ch : Nat → Nat) (b : Nat), i + n = (2 ^ pc - 1) → (b ≤ 2 ^ pc - 1) → (b = 2 ^ pc - 1 ∨ noLk (lay S B (clr (2 ^ pc - 1) b) pc) g cnt) → (∀ t, t < i → popc t < popc b → ¬ noLk (lay S B (clr (2 ^ pc - 1) t) pc) g cnt) → ∀ (H : Heap) (locs : List Loc), va_P (gD G) vwCl [(h, .inr (5, [.ref qs, .ref qg, .ref qd, .ref hc0, .int (nI pc), .int (nI 0), .int (nI 0), .int (nI rp)])), (qs, .inl (G.2.2.1 0, 8, .inl (nA S))), (qg, .inl (G.2.2.1 0, 8, .inl (nA B))), (qd, .inl (G.2.2.1 0, 8, .inl (nA D))), (hc0, .inr (4, [.ref qc])), (qc, .inl (G.2.2.1 0, 7, .inl (nA ch))), (hk, .inr (3, [.ref hl0, .ref qb, .int (nI cnt), .int (nI br)])), (hl0, .inr (4, [.ref qn])), (qn, .inl (G.2.2.1 0, 7, .inl (nA f))), (qb, .inl (G.2.2.1 0, 7, .inl (nA g)))] H → va_D A [(h, .inr (5, [.ref qs, .ref qg, .ref qd, .ref hc0, .int (nI pc), .int (nI 0), .int (nI 0), .int (nI rp)])), (qs, .inl (G.2.2.1 0, 8, .inl (nA S))), (qg, .inl (G.2.2.1 0, 8, .inl (nA B))), (qd, .inl (G.2.2.1 0, 8, .inl (nA D))), (hc0, .inr (4, [.ref qc])), (qc, .inl (G.2.2.1 0, 7, .inl (nA ch))), (hk, .inr (3, [.ref hl0, .ref qb, .int (nI cnt), .int (nI br)])), (hl0, .inr (4, [.ref qn])), (qn, .inl (G.2.2.1 0, 7, .inl (nA f))), (qb, .inl (G.2.2.1 0, 7, .inl (nA g)))] → va_S A s.heap H locs → ∀ ls : Array Slot, lv_has ls 6 [(0, .ref h), (1, .ref hk), (2, .int (nI (2 ^ pc - 1))), (3, .int (nI b)), (4, .int (nI i))] → W P9 l e9 rm_c_Per_findRepair s m9 args below meth c9 H locs 0 0 Q (F0 m9 10 ls []) by
    exact L1 _ 0 c0 (2 ^ pc - 1) (Nat.add_sub_cancel' (by omega)) (Nat.le_refl _) (Or.inl rfl) (fun t h => absurd h (Nat.not_lt_zero t)) _ _ (hP.sub [4, 5, 6, 7, 8, 9, 0, 1, 2, 3] rfl) (hD.sub [4, 5, 6, 7, 8, 9, 0, 1, 2, 3] (by decide) rfl) hS _ (lv_sub hl [3, 4, 2, 1, 0] rfl)
  intro n
  induction n with
  | zero =>
    intro i ch b hi hb1 hb2 hb3 H locs hP hD hS ls hl
    refine lv_iload hx hb dX2_findRepair_10 (lv_at hl 4 rfl) ?_
    refine lv_iload_n hx hb dX2_findRepair_12 rfl (lv_at hl 2 rfl) ?_
    refine gN_ge (tgt := 72) hx hb dX2_findRepair_13 (by decide) (by omega) (by omega) (fun c2 => ?_) (fun c2 => absurd c2 (by omega))
    refine lv_aload_n hx hb dX2_findRepair_72 rfl (lv_at hl 0 rfl) ?_
    refine lv_iload_n hx hb dX2_findRepair_73 rfl (lv_at hl 3 rfl) ?_
    refine va_put (D := gD G) (ci := 5) (v := .int (nI b)) (ty := .int) (C := RX2) (T := TX2) (N := 8) hx hb hts (by decide +kernel) tyX2 tyX2_ok nmX2 hown hK hP hD hS 0 rfl rfl 7 (by decide) (hts (.fieldLink RX2 35 "Degreewall$Permits" "repair" "I") (by decide +kernel)) (fun _ h9 => h9) rfl (by decide +kernel) rfl rfl (Nat.le_of_ble_eq_true rfl) dX2_findRepair_74 (fun H locs hP hD hS => ?_)
    have hP : va_P (gD G) vwCl [(h, .inr (5, [.ref qs, .ref qg, .ref qd, .ref hc0, .int (nI pc), .int (nI 0), .int (nI 0), .int (nI b)])), (qs, .inl (G.2.2.1 0, 8, .inl (nA S))), (qg, .inl (G.2.2.1 0, 8, .inl (nA B))), (qd, .inl (G.2.2.1 0, 8, .inl (nA D))), (hc0, .inr (4, [.ref qc])), (qc, .inl (G.2.2.1 0, 7, .inl (nA ch))), (hk, .inr (3, [.ref hl0, .ref qb, .int (nI cnt), .int (nI br)])), (hl0, .inr (4, [.ref qn])), (qn, .inl (G.2.2.1 0, 7, .inl (nA f))), (qb, .inl (G.2.2.1 0, 7, .inl (nA g)))] H := hP
    have hD : va_D A [(h, .inr (5, [.ref qs, .ref qg, .ref qd, .ref hc0, .int (nI pc), .int (nI 0), .int (nI 0), .int (nI b)])), (qs, .inl (G.2.2.1 0, 8, .inl (nA S))), (qg, .inl (G.2.2.1 0, 8, .inl (nA B))), (qd, .inl (G.2.2.1 0, 8, .inl (nA D))), (hc0, .inr (4, [.ref qc])), (qc, .inl (G.2.2.1 0, 7, .inl (nA ch))), (hk, .inr (3, [.ref hl0, .ref qb, .int (nI cnt), .int (nI br)])), (hl0, .inr (4, [.ref qn])), (qn, .inl (G.2.2.1 0, 7, .inl (nA f))), (qb, .inl (G.2.2.1 0, 7, .inl (nA g)))] := hD
    exact gVret (hQ := hQ) hx hb hr hlocks hP hD hS (ch, b) ⟨hb1, hb2, fun t ht => hb3 t (by omega)⟩ (by rfl) [0, 1, 2, 3, 4, 5, 6, 7, 8, 9] (by decide) (by rfl) (Nat.le_of_ble_eq_true rfl) (Nat.le_of_ble_eq_true rfl) dX2_findRepair_77
  | succ n ih =>
    intro i ch b hi hb1 hb2 hb3 H locs hP hD hS ls hl
    refine lv_iload hx hb dX2_findRepair_10 (lv_at hl 4 rfl) ?_
    refine lv_iload_n hx hb dX2_findRepair_12 rfl (lv_at hl 2 rfl) ?_
    refine gN_ge (tgt := 72) hx hb dX2_findRepair_13 (by decide) (by omega) (by omega) (fun c3 => absurd c3 (by omega)) (fun c3 => ?_)
    have hclr : clr i (2 ^ pc - 1) = 0 := clr_all (by omega)
    refine lv_iload hx hb dX2_findRepair_16 (lv_at hl 4 rfl) ?_
    refine lv_iload_n hx hb dX2_findRepair_18 rfl (lv_at hl 2 rfl) ?_
    refine lv_iconst (v := (-1)) hx hb dX2_findRepair_19 (by decide) ?_
    refine lv_ixor hx hb dX2_findRepair_20 ?_
    refine lv_iand hx hb dX2_findRepair_21 ?_
    refine gTop (y := (nI (clr i (2 ^ pc - 1)))) (n_andnot _ _) ?_
    refine gN_ne0 (tgt := 41) hx hb dX2_findRepair_22 (by decide) (by omega) (fun c4 => absurd c4 (by omega)) (fun c4 => ?_)
    have hpi := popc_le i
    have hpb := popc_le b
    suffices J5 : ∀ (z9 : Nat) , (z9 = if popc i < popc b then 1 else 0) → ∀ (H : Heap) (locs : List Loc), va_P (gD G) vwCl [(h, .inr (5, [.ref qs, .ref qg, .ref qd, .ref hc0, .int (nI pc), .int (nI 0), .int (nI 0), .int (nI rp)])), (qs, .inl (G.2.2.1 0, 8, .inl (nA S))), (qg, .inl (G.2.2.1 0, 8, .inl (nA B))), (qd, .inl (G.2.2.1 0, 8, .inl (nA D))), (hc0, .inr (4, [.ref qc])), (qc, .inl (G.2.2.1 0, 7, .inl (nA ch))), (hk, .inr (3, [.ref hl0, .ref qb, .int (nI cnt), .int (nI br)])), (hl0, .inr (4, [.ref qn])), (qn, .inl (G.2.2.1 0, 7, .inl (nA f))), (qb, .inl (G.2.2.1 0, 7, .inl (nA g)))] H → va_D A [(h, .inr (5, [.ref qs, .ref qg, .ref qd, .ref hc0, .int (nI pc), .int (nI 0), .int (nI 0), .int (nI rp)])), (qs, .inl (G.2.2.1 0, 8, .inl (nA S))), (qg, .inl (G.2.2.1 0, 8, .inl (nA B))), (qd, .inl (G.2.2.1 0, 8, .inl (nA D))), (hc0, .inr (4, [.ref qc])), (qc, .inl (G.2.2.1 0, 7, .inl (nA ch))), (hk, .inr (3, [.ref hl0, .ref qb, .int (nI cnt), .int (nI br)])), (hl0, .inr (4, [.ref qn])), (qn, .inl (G.2.2.1 0, 7, .inl (nA f))), (qb, .inl (G.2.2.1 0, 7, .inl (nA g)))] → va_S A s.heap H locs → ∀ ls : Array Slot, lv_has ls 6 [(0, .ref h), (1, .ref hk), (2, .int (nI (2 ^ pc - 1))), (3, .int (nI b)), (4, .int (nI i))] → W P9 l e9 rm_c_Per_findRepair s m9 args below meth c9 H locs 0 0 Q (F0 m9 42 ls [.int (nI z9)]) by
      refine lv_iload hx hb dX2_findRepair_25 (lv_at hl 4 rfl) ?_
      refine gCS (As := [.int (nI i)]) (rest := []) (wr := [(h, .inr (5, [.ref qs, .ref qg, .ref qd, .ref hc0, .int (nI pc), .int (nI 0), .int (nI 0), .int (nI rp)])), (qs, .inl (G.2.2.1 0, 8, .inl (nA S))), (qg, .inl (G.2.2.1 0, 8, .inl (nA B))), (qd, .inl (G.2.2.1 0, 8, .inl (nA D))), (hc0, .inr (4, [.ref qc])), (qc, .inl (G.2.2.1 0, 7, .inl (nA ch))), (hk, .inr (3, [.ref hl0, .ref qb, .int (nI cnt), .int (nI br)])), (hl0, .inr (4, [.ref qn])), (qn, .inl (G.2.2.1 0, 7, .inl (nA f))), (qb, .inl (G.2.2.1 0, 7, .inl (nA g)))]) hE (c_bitCount l G i (by omega)) (va_cwS 1 hts gX2_findRepair_J6_bitCount_0f7a4 rfl rfl rfl (by decide +kernel) ⟨Nat.le_of_ble_eq_true rfl, Nat.le_of_ble_eq_true rfl⟩) ⟨hx, hb, hml, hown, hts⟩ hK hP hD hS hA [] [0, 1, 2, 3, 4, 5, 6, 7, 8, 9] rfl rfl (by decide) (by decide) (by decide) rfl hl rfl (Nat.le_of_ble_eq_true rfl) dX2_findRepair_27 ⟨Nat.le_of_ble_eq_true rfl, Nat.le_of_ble_eq_true rfl⟩ (fun u9 H locs hu hP hD hS => ?_)
      have hP : va_P (gD G) vwCl [(h, .inr (5, [.ref qs, .ref qg, .ref qd, .ref hc0, .int (nI pc), .int (nI 0), .int (nI 0), .int (nI rp)])), (qs, .inl (G.2.2.1 0, 8, .inl (nA S))), (qg, .inl (G.2.2.1 0, 8, .inl (nA B))), (qd, .inl (G.2.2.1 0, 8, .inl (nA D))), (hc0, .inr (4, [.ref qc])), (qc, .inl (G.2.2.1 0, 7, .inl (nA ch))), (hk, .inr (3, [.ref hl0, .ref qb, .int (nI cnt), .int (nI br)])), (hl0, .inr (4, [.ref qn])), (qn, .inl (G.2.2.1 0, 7, .inl (nA f))), (qb, .inl (G.2.2.1 0, 7, .inl (nA g)))] H := hP
      have hD : va_D A [(h, .inr (5, [.ref qs, .ref qg, .ref qd, .ref hc0, .int (nI pc), .int (nI 0), .int (nI 0), .int (nI rp)])), (qs, .inl (G.2.2.1 0, 8, .inl (nA S))), (qg, .inl (G.2.2.1 0, 8, .inl (nA B))), (qd, .inl (G.2.2.1 0, 8, .inl (nA D))), (hc0, .inr (4, [.ref qc])), (qc, .inl (G.2.2.1 0, 7, .inl (nA ch))), (hk, .inr (3, [.ref hl0, .ref qb, .int (nI cnt), .int (nI br)])), (hl0, .inr (4, [.ref qn])), (qn, .inl (G.2.2.1 0, 7, .inl (nA f))), (qb, .inl (G.2.2.1 0, 7, .inl (nA g)))] := hD
      refine W.eq (g2 := F0 m9 30 ls [.int (nI (popc i))]) rfl ?_
      refine lv_iload_n hx hb dX2_findRepair_30 rfl (lv_at hl 3 rfl) ?_
      refine gCS (As := [.int (nI b)]) (rest := [.int (nI (popc i))]) (wr := [(h, .inr (5, [.ref qs, .ref qg, .ref qd, .ref hc0, .int (nI pc), .int (nI 0), .int (nI 0), .int (nI rp)])), (qs, .inl (G.2.2.1 0, 8, .inl (nA S))), (qg, .inl (G.2.2.1 0, 8, .inl (nA B))), (qd, .inl (G.2.2.1 0, 8, .inl (nA D))), (hc0, .inr (4, [.ref qc])), (qc, .inl (G.2.2.1 0, 7, .inl (nA ch))), (hk, .inr (3, [.ref hl0, .ref qb, .int (nI cnt), .int (nI br)])), (hl0, .inr (4, [.ref qn])), (qn, .inl (G.2.2.1 0, 7, .inl (nA f))), (qb, .inl (G.2.2.1 0, 7, .inl (nA g)))]) hE (c_bitCount l G b (by omega)) (va_cwS 1 hts gX2_findRepair_J6_bitCount_0f7a4 rfl rfl rfl (by decide +kernel) ⟨Nat.le_of_ble_eq_true rfl, Nat.le_of_ble_eq_true rfl⟩) ⟨hx, hb, hml, hown, hts⟩ hK hP hD hS hA [] [0, 1, 2, 3, 4, 5, 6, 7, 8, 9] rfl rfl (by decide) (by decide) (by decide) rfl hl rfl (Nat.le_of_ble_eq_true rfl) dX2_findRepair_31 ⟨Nat.le_of_ble_eq_true rfl, Nat.le_of_ble_eq_true rfl⟩ (fun u9 H locs hu hP hD hS => ?_)
      have hP : va_P (gD G) vwCl [(h, .inr (5, [.ref qs, .ref qg, .ref qd, .ref hc0, .int (nI pc), .int (nI 0), .int (nI 0), .int (nI rp)])), (qs, .inl (G.2.2.1 0, 8, .inl (nA S))), (qg, .inl (G.2.2.1 0, 8, .inl (nA B))), (qd, .inl (G.2.2.1 0, 8, .inl (nA D))), (hc0, .inr (4, [.ref qc])), (qc, .inl (G.2.2.1 0, 7, .inl (nA ch))), (hk, .inr (3, [.ref hl0, .ref qb, .int (nI cnt), .int (nI br)])), (hl0, .inr (4, [.ref qn])), (qn, .inl (G.2.2.1 0, 7, .inl (nA f))), (qb, .inl (G.2.2.1 0, 7, .inl (nA g)))] H := hP
      have hD : va_D A [(h, .inr (5, [.ref qs, .ref qg, .ref qd, .ref hc0, .int (nI pc), .int (nI 0), .int (nI 0), .int (nI rp)])), (qs, .inl (G.2.2.1 0, 8, .inl (nA S))), (qg, .inl (G.2.2.1 0, 8, .inl (nA B))), (qd, .inl (G.2.2.1 0, 8, .inl (nA D))), (hc0, .inr (4, [.ref qc])), (qc, .inl (G.2.2.1 0, 7, .inl (nA ch))), (hk, .inr (3, [.ref hl0, .ref qb, .int (nI cnt), .int (nI br)])), (hl0, .inr (4, [.ref qn])), (qn, .inl (G.2.2.1 0, 7, .inl (nA f))), (qb, .inl (G.2.2.1 0, 7, .inl (nA g)))] := hD
      refine W.eq (g2 := F0 m9 34 ls [.int (nI (popc b)), .int (nI (popc i))]) rfl ?_
      refine gN_ge (tgt := 41) hx hb dX2_findRepair_34 (by decide) (by omega) (by omega) (fun c6 => ?_) (fun c6 => ?_)
      · refine lv_iconst (v := nI 0) hx hb dX2_findRepair_41 (by decide) ?_
        exact J5 0 (by rw [if_neg (by omega)]) _ _ (hP.sub [0, 1, 2, 3, 4, 5, 6, 7, 8, 9] rfl) (hD.sub [0, 1, 2, 3, 4, 5, 6, 7, 8, 9] (by decide) rfl) hS _ (lv_sub hl [0, 1, 2, 3, 4] rfl)
      · refine lv_iconst (v := nI 1) hx hb dX2_findRepair_37 (by decide) ?_
        refine lv_goto (tgt := 42) hx hb dX2_findRepair_38 (by decide) ?_
        exact J5 1 (by rw [if_pos (by omega)]) _ _ (hP.sub [0, 1, 2, 3, 4, 5, 6, 7, 8, 9] rfl) (hD.sub [0, 1, 2, 3, 4, 5, 6, 7, 8, 9] (by decide) rfl) hS _ (lv_sub hl [0, 1, 2, 3, 4] rfl)
    intro z9 hz9 H locs hP hD hS ls hl
    refine lv_istore (lv' := [(5, .int (nI z9)), (0, .ref h), (1, .ref hk), (2, .int (nI (2 ^ pc - 1))), (3, .int (nI b)), (4, .int (nI i))]) hx hb dX2_findRepair_42 hl (by decide) rfl (fun ls hl => ?_)
    refine lv_iload hx hb dX2_findRepair_44 (lv_at hl 0 rfl) ?_
    have hz8 : z9 < 2 ^ 31 := by rw [hz9]; split <;> decide
    refine gN_eq0 (tgt := 66) hx hb dX2_findRepair_46 (by decide) (by omega) (fun c7 => ?_) (fun c7 => ?_)
    · refine lv_iinc (lv' := [(4, .int (nI (i + 1))), (5, .int (nI z9)), (0, .ref h), (1, .ref hk), (2, .int (nI (2 ^ pc - 1))), (3, .int (nI b))]) hx hb dX2_findRepair_66 hl (k := 5) rfl (n_inc _) (by decide) rfl (fun ls hl => ?_)
      refine lv_goto (tgt := 10) hx hb dX2_findRepair_69 (by decide) ?_
      exact ih (i + 1) ch b (by omega) hb1 hb2 (fun t ht hlt => by rcases Nat.lt_or_ge t i with y | y; (exact hb3 t y hlt); (have e : t = i := (by omega); subst e; exact absurd hlt (by rw [hz9] at c7; split at c7 <;> omega))) _ _ (hP.sub [0, 1, 2, 3, 4, 5, 6, 7, 8, 9] rfl) (hD.sub [0, 1, 2, 3, 4, 5, 6, 7, 8, 9] (by decide) rfl) hS _ (lv_sub hl [2, 3, 4, 5, 0] rfl)
    · have hclr2 : clr (2 ^ pc - 1) i < 256 := clr_le10 (by omega)
      refine lv_aload_n hx hb dX2_findRepair_49 rfl (lv_at hl 1 rfl) ?_
      refine lv_iload_n hx hb dX2_findRepair_50 rfl (lv_at hl 3 rfl) ?_
      refine lv_iload hx hb dX2_findRepair_51 (lv_at hl 5 rfl) ?_
      refine lv_iconst (v := (-1)) hx hb dX2_findRepair_53 (by decide) ?_
      refine lv_ixor hx hb dX2_findRepair_54 ?_
      refine lv_iand hx hb dX2_findRepair_55 ?_
      refine gTop (y := (nI (clr (2 ^ pc - 1) i))) (n_andnot _ _) ?_
      refine lv_aload_n hx hb dX2_findRepair_56 rfl (lv_at hl 2 rfl) ?_
      refine gCV (ci := 5) (q0 := 0) (C := RX2) (As := [.int (nI (clr (2 ^ pc - 1) i)), .ref hk]) (rest := []) (wr := []) hE (c_Per_leaksBy l G h qs qg qd hc0 qc S B D ch pc rp hk hl0 qn qb f g cnt br (clr (2 ^ pc - 1) i) (by omega) (by omega) hSB hg (by omega)) (cwV 2 hts gX2_findRepair_X2_leaksBy rfl rfl rfl (by decide +kernel) ⟨Nat.le_of_ble_eq_true rfl, Nat.le_of_ble_eq_true rfl⟩) ⟨hx, hb, hml, hown, hts⟩ hK hP hD hS hA [0, 1, 2, 3, 4, 5, 6, 7, 8, 9] [] rfl rfl (by decide) (by decide) (by decide) rfl rfl rfl hl rfl (Nat.le_of_ble_eq_true rfl) dX2_findRepair_57 ⟨Nat.le_of_ble_eq_true rfl, Nat.le_of_ble_eq_true rfl⟩ (fun u9 H locs hu hP hD hS => ?_)
      obtain ⟨g8, v9⟩ := u9
      have hv9a : v9 ≤ 70 := hu.1
      have hv9 : v9 = 0 ↔ noLk (lay S B (clr (2 ^ pc - 1) i) pc) g cnt := hu.2
      have hP : va_P (gD G) vwCl [(h, .inr (5, [.ref qs, .ref qg, .ref qd, .ref hc0, .int (nI pc), .int (nI 0), .int (nI 0), .int (nI rp)])), (qs, .inl (G.2.2.1 0, 8, .inl (nA S))), (qg, .inl (G.2.2.1 0, 8, .inl (nA B))), (qd, .inl (G.2.2.1 0, 8, .inl (nA D))), (hc0, .inr (4, [.ref qc])), (qc, .inl (G.2.2.1 0, 7, .inl (nA g8))), (hk, .inr (3, [.ref hl0, .ref qb, .int (nI cnt), .int (nI br)])), (hl0, .inr (4, [.ref qn])), (qn, .inl (G.2.2.1 0, 7, .inl (nA f))), (qb, .inl (G.2.2.1 0, 7, .inl (nA g)))] H := hP
      have hD : va_D A [(h, .inr (5, [.ref qs, .ref qg, .ref qd, .ref hc0, .int (nI pc), .int (nI 0), .int (nI 0), .int (nI rp)])), (qs, .inl (G.2.2.1 0, 8, .inl (nA S))), (qg, .inl (G.2.2.1 0, 8, .inl (nA B))), (qd, .inl (G.2.2.1 0, 8, .inl (nA D))), (hc0, .inr (4, [.ref qc])), (qc, .inl (G.2.2.1 0, 7, .inl (nA g8))), (hk, .inr (3, [.ref hl0, .ref qb, .int (nI cnt), .int (nI br)])), (hl0, .inr (4, [.ref qn])), (qn, .inl (G.2.2.1 0, 7, .inl (nA f))), (qb, .inl (G.2.2.1 0, 7, .inl (nA g)))] := hD
      refine W.eq (g2 := F0 m9 60 ls [.int (nI v9)]) rfl ?_
      refine gN_ne0 (tgt := 66) hx hb dX2_findRepair_60 (by decide) (by omega) (fun c10 => ?_) (fun c10 => ?_)
      · refine lv_iinc (lv' := [(4, .int (nI (i + 1))), (5, .int (nI z9)), (0, .ref h), (1, .ref hk), (2, .int (nI (2 ^ pc - 1))), (3, .int (nI b))]) hx hb dX2_findRepair_66 hl (k := 5) rfl (n_inc _) (by decide) rfl (fun ls hl => ?_)
        refine lv_goto (tgt := 10) hx hb dX2_findRepair_69 (by decide) ?_
        exact ih (i + 1) g8 b (by omega) hb1 hb2 (fun t ht hlt => by rcases Nat.lt_or_ge t i with y | y; (exact hb3 t y hlt); (have e : t = i := (by omega); subst e; exact fun z => absurd (hv9.mpr z) c10)) _ _ (hP.sub [0, 1, 2, 3, 4, 5, 6, 7, 8, 9] rfl) (hD.sub [0, 1, 2, 3, 4, 5, 6, 7, 8, 9] (by decide) rfl) hS _ (lv_sub hl [2, 3, 4, 5, 0] rfl)
      · refine lv_iload hx hb dX2_findRepair_63 (lv_at hl 5 rfl) ?_
        refine lv_istore_n (lv' := [(3, .int (nI i)), (5, .int (nI z9)), (0, .ref h), (1, .ref hk), (2, .int (nI (2 ^ pc - 1))), (4, .int (nI i))]) hx hb dX2_findRepair_65 rfl hl (by decide) rfl (fun ls hl => ?_)
        refine lv_iinc (lv' := [(4, .int (nI (i + 1))), (3, .int (nI i)), (5, .int (nI z9)), (0, .ref h), (1, .ref hk), (2, .int (nI (2 ^ pc - 1)))]) hx hb dX2_findRepair_66 hl (k := 5) rfl (n_inc _) (by decide) rfl (fun ls hl => ?_)
        refine lv_goto (tgt := 10) hx hb dX2_findRepair_69 (by decide) ?_
        exact ih (i + 1) g8 i (by omega) (by omega) (Or.inr (hv9.mp c10)) (fun t ht hlt => by rcases Nat.lt_or_ge t i with y | y; (exact hb3 t y (by rw [hz9] at c7; split at c7 <;> omega)); (have e : t = i := (by omega); subst e; exact absurd hlt (by omega))) _ _ (hP.sub [0, 1, 2, 3, 4, 5, 6, 7, 8, 9] rfl) (hD.sub [0, 1, 2, 3, 4, 5, 6, 7, 8, 9] (by decide) rfl) hS _ (lv_sub hl [3, 4, 5, 1, 0] rfl)

def rm_c_Per_areSound : Room := { frames := 4, cells := 0, slots := 0, locals := 93 }
set_option maxHeartbeats 4000000 in
set_option maxRecDepth 100000 in
/-- areSound(kinship) -/
theorem c_Per_areSound (l : Launch) (G : gG) (h : Nat) (qs : Nat) (qg : Nat) (qd : Nat) (hc0 : Nat) (qc : Nat) (S : Nat → Nat) (B : Nat → Nat) (D : Nat → Nat) (c0 : Nat → Nat) (pc : Nat) (rp : Nat) (hk : Nat) (hl0 : Nat) (qn : Nat) (qb : Nat) (f : Nat → Nat) (g : Nat → Nat) (cnt : Nat) (br : Nat) (hp : pc ≤ 8) (hd : ∀ j, j < 8 → D j < 2 ^ 31) (hSB : isP S B pc) (hg : m7 g) (hcnt : cnt ≤ 7) (hrp : rp < 256) (hnl : noLk (lay S B (clr (2 ^ pc - 1) rp) pc) g cnt) : gMet (S := Nat → Nat) l G yX2_areSound wsX2_areSound rm_c_Per_areSound [.ref h, .ref hk] [(h, .inr (5, [.ref qs, .ref qg, .ref qd, .ref hc0, .int (nI pc), .int (nI 0), .int (nI 0), .int (nI rp)])), (qs, .inl (G.2.2.1 0, 8, .inl (nA S))), (qg, .inl (G.2.2.1 0, 8, .inl (nA B))), (qd, .inl (G.2.2.1 0, 8, .inl (nA D))), (hc0, .inr (4, [.ref qc])), (qc, .inl (G.2.2.1 0, 7, .inl (nA c0))), (hk, .inr (3, [.ref hl0, .ref qb, .int (nI cnt), .int (nI br)])), (hl0, .inr (4, [.ref qn])), (qn, .inl (G.2.2.1 0, 7, .inl (nA f))), (qb, .inl (G.2.2.1 0, 7, .inl (nA g)))] (fun _ => True) (fun _ => some (.int (nI 1))) (fun c => [(h, .inr (5, [.ref qs, .ref qg, .ref qd, .ref hc0, .int (nI pc), .int (nI 0), .int (nI 0), .int (nI rp)])), (qs, .inl (G.2.2.1 0, 8, .inl (nA S))), (qg, .inl (G.2.2.1 0, 8, .inl (nA B))), (qd, .inl (G.2.2.1 0, 8, .inl (nA D))), (hc0, .inr (4, [.ref qc])), (qc, .inl (G.2.2.1 0, 7, .inl (nA c))), (hk, .inr (3, [.ref hl0, .ref qb, .int (nI cnt), .int (nI br)])), (hl0, .inr (4, [.ref qn])), (qn, .inl (G.2.2.1 0, 7, .inl (nA f))), (qb, .inl (G.2.2.1 0, 7, .inl (nA g)))]) := by
  refine gOf (maxL := 2) (ret := (some .boolean)) (cc := cX2_areSound) (by decide) rfl (Nat.le_of_ble_eq_true rfl) ?_
  intro P9 e9 s m9 args below meth c9 A ls H locs Q hQ hx hb hml hr hown hts hlocks hin hK hP hD hS hA hE hl
  have hown : s.vm.findClass RX2 = some m9.cls := hown
  have hl : lv_has ls 2 [(0, .ref h), (1, .ref hk)] := hl
  have hpw := pow2_le8 pc hp
  have hpos := Nat.two_pow_pos pc
  refine lv_aload_n hx hb dX2_areSound_0 rfl (lv_at hl 0 rfl) ?_
  refine lv_aload_n hx hb dX2_areSound_1 rfl (lv_at hl 0 rfl) ?_
  refine gCV (ci := 5) (q0 := 0) (C := RX2) (As := []) (rest := [.ref h]) (wr := [(hk, .inr (3, [.ref hl0, .ref qb, .int (nI cnt), .int (nI br)])), (hl0, .inr (4, [.ref qn])), (qn, .inl (G.2.2.1 0, 7, .inl (nA f))), (qb, .inl (G.2.2.1 0, 7, .inl (nA g)))]) hE (c_Per_inForce l G h qs qg qd hc0 qc S B D c0 pc rp (by omega) hd) (cwV 0 hts gX2_areSound_X2_inForce rfl rfl rfl (by decide +kernel) ⟨Nat.le_of_ble_eq_true rfl, Nat.le_of_ble_eq_true rfl⟩) ⟨hx, hb, hml, hown, hts⟩ hK hP hD hS hA [0, 1, 2, 3, 4, 5] [6, 7, 8, 9] rfl rfl (by decide) (by decide) (by decide) rfl rfl rfl hl rfl (Nat.le_of_ble_eq_true rfl) dX2_areSound_2 ⟨Nat.le_of_ble_eq_true rfl, Nat.le_of_ble_eq_true rfl⟩ (fun u9 H locs hu hP hD hS => ?_)
  have hP : va_P (gD G) vwCl [(hk, .inr (3, [.ref hl0, .ref qb, .int (nI cnt), .int (nI br)])), (hl0, .inr (4, [.ref qn])), (qn, .inl (G.2.2.1 0, 7, .inl (nA f))), (qb, .inl (G.2.2.1 0, 7, .inl (nA g))), (h, .inr (5, [.ref qs, .ref qg, .ref qd, .ref hc0, .int (nI pc), .int (nI 0), .int (nI 0), .int (nI rp)])), (qs, .inl (G.2.2.1 0, 8, .inl (nA S))), (qg, .inl (G.2.2.1 0, 8, .inl (nA B))), (qd, .inl (G.2.2.1 0, 8, .inl (nA D))), (hc0, .inr (4, [.ref qc])), (qc, .inl (G.2.2.1 0, 7, .inl (nA c0)))] H := hP
  have hD : va_D A [(hk, .inr (3, [.ref hl0, .ref qb, .int (nI cnt), .int (nI br)])), (hl0, .inr (4, [.ref qn])), (qn, .inl (G.2.2.1 0, 7, .inl (nA f))), (qb, .inl (G.2.2.1 0, 7, .inl (nA g))), (h, .inr (5, [.ref qs, .ref qg, .ref qd, .ref hc0, .int (nI pc), .int (nI 0), .int (nI 0), .int (nI rp)])), (qs, .inl (G.2.2.1 0, 8, .inl (nA S))), (qg, .inl (G.2.2.1 0, 8, .inl (nA B))), (qd, .inl (G.2.2.1 0, 8, .inl (nA D))), (hc0, .inr (4, [.ref qc])), (qc, .inl (G.2.2.1 0, 7, .inl (nA c0)))] := hD
  refine W.eq (g2 := F0 m9 5 ls [.int (nI (2 ^ pc - 1)), .ref h]) rfl ?_
  refine lv_aload_n hx hb dX2_areSound_5 rfl (lv_at hl 0 rfl) ?_
  refine va_get (D := gD G) (ci := 5) (v := .int (nI rp)) (C := RX2) (T := TX2) (N := 8) hx hb hts (by decide +kernel) hown hK hP 4 rfl rfl 7 (by decide) (hts (.fieldLink RX2 35 "Degreewall$Permits" "repair" "I") (by decide +kernel)) (fun _ h9 => h9) rfl dX2_areSound_6 ?_
  refine lv_iconst (v := (-1)) hx hb dX2_areSound_9 (by decide) ?_
  have hclr2 : clr (2 ^ pc - 1) rp < 256 := clr_le10 (by omega)
  refine lv_ixor hx hb dX2_areSound_10 ?_
  refine lv_iand hx hb dX2_areSound_11 ?_
  refine gTop (y := (nI (clr (2 ^ pc - 1) rp))) (n_andnot _ _) ?_
  refine lv_aload_n hx hb dX2_areSound_12 rfl (lv_at hl 1 rfl) ?_
  refine gCV (ci := 5) (q0 := 0) (C := RX2) (As := [.int (nI (clr (2 ^ pc - 1) rp)), .ref hk]) (rest := []) (wr := []) hE (c_Per_leaksBy l G h qs qg qd hc0 qc S B D c0 pc rp hk hl0 qn qb f g cnt br (clr (2 ^ pc - 1) rp) (by omega) (by omega) hSB hg (by omega)) (cwV 2 hts gX2_areSound_X2_leaksBy rfl rfl rfl (by decide +kernel) ⟨Nat.le_of_ble_eq_true rfl, Nat.le_of_ble_eq_true rfl⟩) ⟨hx, hb, hml, hown, hts⟩ hK hP hD hS hA [4, 5, 6, 7, 8, 9, 0, 1, 2, 3] [] rfl rfl (by decide) (by decide) (by decide) rfl rfl rfl hl rfl (Nat.le_of_ble_eq_true rfl) dX2_areSound_13 ⟨Nat.le_of_ble_eq_true rfl, Nat.le_of_ble_eq_true rfl⟩ (fun u9 H locs hu hP hD hS => ?_)
  obtain ⟨g1, v2⟩ := u9
  have hv2a : v2 ≤ 70 := hu.1
  have hv2 : v2 = 0 ↔ noLk (lay S B (clr (2 ^ pc - 1) rp) pc) g cnt := hu.2
  have hP : va_P (gD G) vwCl [(h, .inr (5, [.ref qs, .ref qg, .ref qd, .ref hc0, .int (nI pc), .int (nI 0), .int (nI 0), .int (nI rp)])), (qs, .inl (G.2.2.1 0, 8, .inl (nA S))), (qg, .inl (G.2.2.1 0, 8, .inl (nA B))), (qd, .inl (G.2.2.1 0, 8, .inl (nA D))), (hc0, .inr (4, [.ref qc])), (qc, .inl (G.2.2.1 0, 7, .inl (nA g1))), (hk, .inr (3, [.ref hl0, .ref qb, .int (nI cnt), .int (nI br)])), (hl0, .inr (4, [.ref qn])), (qn, .inl (G.2.2.1 0, 7, .inl (nA f))), (qb, .inl (G.2.2.1 0, 7, .inl (nA g)))] H := hP
  have hD : va_D A [(h, .inr (5, [.ref qs, .ref qg, .ref qd, .ref hc0, .int (nI pc), .int (nI 0), .int (nI 0), .int (nI rp)])), (qs, .inl (G.2.2.1 0, 8, .inl (nA S))), (qg, .inl (G.2.2.1 0, 8, .inl (nA B))), (qd, .inl (G.2.2.1 0, 8, .inl (nA D))), (hc0, .inr (4, [.ref qc])), (qc, .inl (G.2.2.1 0, 7, .inl (nA g1))), (hk, .inr (3, [.ref hl0, .ref qb, .int (nI cnt), .int (nI br)])), (hl0, .inr (4, [.ref qn])), (qn, .inl (G.2.2.1 0, 7, .inl (nA f))), (qb, .inl (G.2.2.1 0, 7, .inl (nA g)))] := hD
  refine W.eq (g2 := F0 m9 16 ls [.int (nI v2)]) rfl ?_
  have hv0 := hv2.mpr hnl
  refine gN_ne0 (tgt := 23) hx hb dX2_areSound_16 (by decide) (by omega) (fun c3 => absurd c3 (by omega)) (fun c3 => ?_)
  refine lv_iconst (v := nI 1) hx hb dX2_areSound_19 (by decide) ?_
  refine lv_goto (tgt := 24) hx hb dX2_areSound_20 (by decide) ?_
  exact gZret (hQ := hQ) hx hb hr hlocks (by first | exact Or.inl rfl | exact Or.inr rfl) hP hD hS g1 trivial (by rfl) [0, 1, 2, 3, 4, 5, 6, 7, 8, 9] (by decide) (by rfl) (Nat.le_of_ble_eq_true rfl) (Nat.le_of_ble_eq_true rfl) dX2_areSound_24
