/-! Links, and contains: what they reckon -/
/-- acc and f k for each k below n that is in a -/
def widN (f : Nat → Nat) (a : Nat) : Nat → Nat
  | 0 => a
  | n + 1 => if a.testBit n then widN f a n ||| f n else widN f a n
theorem widN_f {f : Nat → Nat} {a n : Nat} (h : a.testBit n = false) : widN f a (n + 1) = widN f a n := if_neg (by rw [h]; decide)
theorem widN_t {f : Nat → Nat} {a n : Nat} (h : a.testBit n = true) : widN f a (n + 1) = widN f a n ||| f n := if_pos h
def wid (f : Nat → Nat) (a : Nat) : Nat := widN f a 7
def rchN (f : Nat → Nat) (x : Nat) : Nat → Nat
  | 0 => x
  | n + 1 => wid f (rchN f x n)
def lnk (f : Nat → Nat) (a b : Nat) : Nat → Nat := va_up (va_up f a (f a ||| 2 ^ b)) b ((va_up f a (f a ||| 2 ^ b)) b ||| 2 ^ a)
def unl (f : Nat → Nat) (a b : Nat) : Nat → Nat := va_up (va_up f a (clr (f a) (2 ^ b))) b (clr ((va_up f a (clr (f a) (2 ^ b))) b) (2 ^ a))
/-- seven places, sets of seven -/
def m7 (f : Nat → Nat) : Prop := ∀ i, i < 7 → f i < 128
theorem widN_lt {f : Nat → Nat} (hf : m7 f) {a : Nat} (ha : a < 128) : ∀ n, n ≤ 7 → widN f a n < 128
  | 0, _ => ha
  | n + 1, h => by
    have h1 := widN_lt hf ha n (by omega)
    have h2 := hf n (by omega)
    unfold widN
    split
    · exact Nat.or_lt_two_pow (n := 7) h1 h2
    · exact h1
theorem wid_lt {f : Nat → Nat} (hf : m7 f) {a : Nat} (ha : a < 128) : wid f a < 128 := widN_lt hf ha 7 (Nat.le_refl 7)
theorem rchN_lt {f : Nat → Nat} (hf : m7 f) {x : Nat} (hx : x < 128) : ∀ n, rchN f x n < 128
  | 0 => hx
  | n + 1 => wid_lt hf (rchN_lt hf hx n)
theorem two_pow7 : ∀ k, k < 7 → 2 ^ k < 128 := by decide

def rm_c_contains : Room := { frames := 0, cells := 0, slots := 0, locals := 0 }
set_option maxHeartbeats 4000000 in
set_option maxRecDepth 100000 in
/-- contains(set, number) -/
theorem c_contains (l : Launch) (G : gG) (a : Nat) (k : Nat) (ha : a < 2 ^ 31) (hk : k < 32) : gMet (S := Unit) l G yX6_contains wsX6_contains rm_c_contains [.int (nI a), .int (nI k)] [] (fun _ => True) (fun _ => some (.int (nI (a.testBit k).toNat))) (fun _ => []) := by
  refine gOf (maxL := 2) (ret := (some .boolean)) (cc := cX6_contains) (by decide) rfl (Nat.le_of_ble_eq_true rfl) ?_
  intro P9 e9 s m9 args below meth c9 A ls H locs Q hQ hx hb hml hr hown hts hlocks hin hK hP hD hS hA hE hl
  have hown : s.vm.findClass RX6 = some m9.cls := hown
  have hl : lv_has ls 2 [(0, .int (nI a)), (1, .int (nI k))] := hl
  have hk1 : a / 2 ^ k < 2 ^ 31 := Nat.lt_of_le_of_lt (Nat.div_le_self _ _) ha
  have hk2 : a / 2 ^ k &&& 1 < 2 ^ 31 := Nat.lt_of_le_of_lt Nat.and_le_left hk1
  refine lv_iload_n hx hb dX6_contains_0 rfl (lv_at hl 0 rfl) ?_
  refine lv_iload_n hx hb dX6_contains_1 rfl (lv_at hl 1 rfl) ?_
  refine lv_ishr hx hb dX6_contains_2 ?_
  refine gTop (y := (nI (a / 2 ^ k))) (n_shr (by omega) (by omega)) ?_
  refine lv_iconst (v := nI 1) hx hb dX6_contains_3 (by decide) ?_
  refine lv_iand hx hb dX6_contains_4 ?_
  refine gTop (y := (nI ((a / 2 ^ k) &&& 1))) (n_and _ _) ?_
  refine lv_iconst (v := nI 1) hx hb dX6_contains_5 (by decide) ?_
  refine gN_ne (tgt := 13) hx hb dX6_contains_6 (by decide) (by omega) (by decide) (fun c1 => ?_) (fun c1 => ?_)
  · refine lv_iconst (v := nI 0) hx hb dX6_contains_13 (by decide) ?_
    refine gTop (y := nI (a.testBit k).toNat) (congrArg nI (by rw [n_bit1] at c1; cases hz : a.testBit k <;> simp_all)) ?_
    exact gZret (hQ := hQ) hx hb hr hlocks (by cases a.testBit k <;> first | exact Or.inl rfl | exact Or.inr rfl) hP hD hS () trivial (by rfl) [] (by decide) (by rfl) (Nat.le_of_ble_eq_true rfl) (Nat.le_of_ble_eq_true rfl) dX6_contains_14
  · refine lv_iconst (v := nI 1) hx hb dX6_contains_9 (by decide) ?_
    refine lv_goto (tgt := 14) hx hb dX6_contains_10 (by decide) ?_
    refine gTop (y := nI (a.testBit k).toNat) (by rw [← n_bit1, c1]) ?_
    exact gZret (hQ := hQ) hx hb hr hlocks (by cases a.testBit k <;> first | exact Or.inl rfl | exact Or.inr rfl) hP hD hS () trivial (by rfl) [] (by decide) (by rfl) (Nat.le_of_ble_eq_true rfl) (Nat.le_of_ble_eq_true rfl) dX6_contains_14

def rm_c_Links_init : Room := { frames := 1, cells := 1, slots := 7, locals := 12 }
set_option maxHeartbeats 4000000 in
set_option maxRecDepth 100000 in
/-- Links() -/
theorem c_Links_init (l : Launch) (G : gG) (h : Nat) (x : Value)  : gMet (S := Nat) l G yX1_init wsX1_init rm_c_Links_init [.ref h] [(h, .inr (4, [x]))] (fun _ => True) (fun _ => none) (fun q => [(h, .inr (4, [.ref q])), (q, .inl (G.2.2.1 0, 7, .inl (nA (fun _ => 0))))]) := by
  refine gOf (maxL := 1) (ret := none) (cc := cX1_init) (by decide) rfl (Nat.le_of_ble_eq_true rfl) ?_
  intro P9 e9 s m9 args below meth c9 A ls H locs Q hQ hx hb hml hr hown hts hlocks hin hK hP hD hS hA hE hl
  have hown : s.vm.findClass RX1 = some m9.cls := hown
  have hl : lv_has ls 1 [(0, .ref h)] := hl
  refine lv_aload_n hx hb dX1_init_0 rfl (lv_at hl 0 rfl) ?_
  refine W.objInit hx hb hown (hts (.methodLink RX1 3 objectInit) (by decide +kernel)) (hts (.instanceMethod objectInit) (by decide +kernel)) (hts _ (by decide +kernel)) rfl (by rw [hml]; exact hl.1) rfl dX1_init_1 (Nat.le_of_ble_eq_true rfl) (Nat.le_of_ble_eq_true rfl) ?_
  refine W.eq (g2 := F0 m9 4 ls []) rfl ?_
  refine lv_aload_n hx hb dX1_init_4 rfl (lv_at hl 0 rfl) ?_
  refine lv_bipush (v := nI 7) hx hb dX1_init_5 (by decide) ?_
  refine gN_newa (n := 7) hx hb (hts (.arrayClass .int) (by decide +kernel)) hK hP hD hS hA (by decide) (by decide) (Nat.le_of_ble_eq_true rfl) (Nat.le_of_ble_eq_true rfl) dX1_init_7 (fun q1 H hP hD hS => ?_)
  have hP : va_P (gD G) vwCl [(h, .inr (4, [x])), (q1, .inl (G.2.2.1 0, 7, .inl (nA (fun _ => 0))))] H := hP
  have hD : va_D A [(h, .inr (4, [x])), (q1, .inl (G.2.2.1 0, 7, .inl (nA (fun _ => 0))))] := hD
  refine W.widen (k := 1) (n := 7) (Nat.le_of_ble_eq_true rfl) (Nat.le_of_ble_eq_true rfl) ?_
  refine va_putF (D := gD G) (ci := 4) (v := .ref q1) (ty := (tyX1 0)) (C := RX1) (T := TX1) (N := 1) hx hb hts (by decide +kernel) tyX1 tyX1_ok nmX1 hown hK hP hD hS 0 rfl rfl 0 (by decide) (hts (.fieldLink RX1 9 "Degreewall$Links" "near" "[I") (by decide +kernel)) (fun _ h9 => h9) rfl hin rfl (by decide +kernel) rfl rfl (Nat.le_of_ble_eq_true rfl) dX1_init_9 (fun H locs hP hD hS => ?_)
  have hP : va_P (gD G) vwCl [(h, .inr (4, [.ref q1])), (q1, .inl (G.2.2.1 0, 7, .inl (nA (fun _ => 0))))] H := hP
  have hD : va_D A [(h, .inr (4, [.ref q1])), (q1, .inl (G.2.2.1 0, 7, .inl (nA (fun _ => 0))))] := hD
  exact gVret (hQ := hQ) hx hb hr hlocks hP hD hS q1 trivial (by rfl) [0, 1] (by decide) (by rfl) (Nat.le_of_ble_eq_true rfl) (Nat.le_of_ble_eq_true rfl) dX1_init_12

def rm_c_Links_cutAll : Room := { frames := 0, cells := 0, slots := 0, locals := 0 }
set_option maxHeartbeats 4000000 in
set_option maxRecDepth 100000 in
/-- cutAll(): all is 0 -/
theorem c_Links_cutAll (l : Launch) (G : gG) (h : Nat) (q : Nat) (f : Nat → Nat)  : gMet (S := Nat → Nat) l G yX1_cutAll wsX1_cutAll rm_c_Links_cutAll [.ref h] [(h, .inr (4, [.ref q])), (q, .inl (G.2.2.1 0, 7, .inl (nA f)))] (fun g => ∀ j, j < 7 → g j = 0) (fun _ => none) (fun g => [(h, .inr (4, [.ref q])), (q, .inl (G.2.2.1 0, 7, .inl (nA g)))]) := by
  refine gOf (maxL := 2) (ret := none) (cc := cX1_cutAll) (by decide) rfl (Nat.le_of_ble_eq_true rfl) ?_
  intro P9 e9 s m9 args below meth c9 A ls H locs Q hQ hx hb hml hr hown hts hlocks hin hK hP hD hS hA hE hl
  have hown : s.vm.findClass RX1 = some m9.cls := hown
  have hl : lv_has ls 2 [(0, .ref h)] := hl
  refine lv_iconst (v := nI 0) hx hb dX1_cutAll_0 (by decide) ?_
  refine lv_istore_n (lv' := [(1, .int (nI 0)), (0, .ref h)]) hx hb dX1_cutAll_1 rfl hl (by decide) rfl (fun ls hl => ?_)
  suffices L1 : ∀ (n i : Nat) (g : Nat → Nat), i + n = 7 → (∀ j, j < i → g j = 0) → ∀ (H : Heap) (locs : List Loc), va_P (gD G) vwCl [(h, .inr (4, [.ref q])), (q, .inl (G.2.2.1 0, 7, .inl (nA g)))] H → va_D A [(h, .inr (4, [.ref q])), (q, .inl (G.2.2.1 0, 7, .inl (nA g)))] → va_S A s.heap H locs → ∀ ls : Array Slot, lv_has ls 2 [(0, .ref h), (1, .int (nI i))] → W P9 l e9 rm_c_Links_cutAll s m9 args below meth c9 H locs 0 0 Q (F0 m9 2 ls []) by
    exact L1 _ 0 f (Nat.add_sub_cancel' (by omega)) (fun j hj => absurd hj (Nat.not_lt_zero j)) _ _ (hP.sub [0, 1] rfl) (hD.sub [0, 1] (by decide) rfl) hS _ (lv_sub hl [1, 0] rfl)
  intro n
  induction n with
  | zero =>
    intro i g hi hg H locs hP hD hS ls hl
    refine lv_iload_n hx hb dX1_cutAll_2 rfl (lv_at hl 1 rfl) ?_
    refine lv_aload_n hx hb dX1_cutAll_3 rfl (lv_at hl 0 rfl) ?_
    refine va_get (D := gD G) (ci := 4) (v := .ref q) (C := RX1) (T := TX1) (N := 1) hx hb hts (by decide +kernel) hown hK hP 0 rfl rfl 0 (by decide) (hts (.fieldLink RX1 9 "Degreewall$Links" "near" "[I") (by decide +kernel)) (fun _ h9 => h9) rfl dX1_cutAll_4 ?_
    refine va_alen (v := nI 7) hx hb hK hP 1 0 rfl rfl rfl dX1_cutAll_7 ?_
    refine gN_ge (tgt := 24) hx hb dX1_cutAll_8 (by decide) (by omega) (by decide) (fun c2 => ?_) (fun c2 => absurd c2 (by omega))
    exact gVret (hQ := hQ) hx hb hr hlocks hP hD hS g (fun j hj => hg j (by omega)) (by rfl) [0, 1] (by decide) (by rfl) (Nat.le_of_ble_eq_true rfl) (Nat.le_of_ble_eq_true rfl) dX1_cutAll_24
  | succ n ih =>
    intro i g hi hg H locs hP hD hS ls hl
    refine lv_iload_n hx hb dX1_cutAll_2 rfl (lv_at hl 1 rfl) ?_
    refine lv_aload_n hx hb dX1_cutAll_3 rfl (lv_at hl 0 rfl) ?_
    refine va_get (D := gD G) (ci := 4) (v := .ref q) (C := RX1) (T := TX1) (N := 1) hx hb hts (by decide +kernel) hown hK hP 0 rfl rfl 0 (by decide) (hts (.fieldLink RX1 9 "Degreewall$Links" "near" "[I") (by decide +kernel)) (fun _ h9 => h9) rfl dX1_cutAll_4 ?_
    refine va_alen (v := nI 7) hx hb hK hP 1 0 rfl rfl rfl dX1_cutAll_7 ?_
    refine gN_ge (tgt := 24) hx hb dX1_cutAll_8 (by decide) (by omega) (by decide) (fun c3 => absurd c3 (by omega)) (fun c3 => ?_)
    refine lv_aload_n hx hb dX1_cutAll_11 rfl (lv_at hl 0 rfl) ?_
    refine va_get (D := gD G) (ci := 4) (v := .ref q) (C := RX1) (T := TX1) (N := 1) hx hb hts (by decide +kernel) hown hK hP 0 rfl rfl 0 (by decide) (hts (.fieldLink RX1 9 "Degreewall$Links" "near" "[I") (by decide +kernel)) (fun _ h9 => h9) rfl dX1_cutAll_12 ?_
    refine lv_iload_n hx hb dX1_cutAll_15 rfl (lv_at hl 1 rfl) ?_
    refine lv_iconst (v := nI 0) hx hb dX1_cutAll_16 (by decide) ?_
    refine gN_iast hx hb hK hP hD hS 1 0 rfl rfl (by omega) (by decide) dX1_cutAll_17 (fun H locs hP hD hS => ?_)
    have hP : va_P (gD G) vwCl [(h, .inr (4, [.ref q])), (q, .inl (G.2.2.1 0, 7, .inl (nA (va_up g i 0))))] H := hP
    have hD : va_D A [(h, .inr (4, [.ref q])), (q, .inl (G.2.2.1 0, 7, .inl (nA (va_up g i 0))))] := hD
    refine lv_iinc (lv' := [(1, .int (nI (i + 1))), (0, .ref h)]) hx hb dX1_cutAll_18 hl (k := 1) rfl (n_inc _) (by decide) rfl (fun ls hl => ?_)
    refine lv_goto (tgt := 2) hx hb dX1_cutAll_21 (by decide) ?_
    exact ih (i + 1) (va_up g i 0) (by omega) (fun j hj => by by_cases e : j = i; (simp [va_up, e]); (rw [va_up_ne _ _ e]; exact hg j (by omega))) _ _ (hP.sub [0, 1] rfl) (hD.sub [0, 1] (by decide) rfl) hS _ (lv_sub hl [1, 0] rfl)

def rm_c_Links_link : Room := { frames := 0, cells := 0, slots := 0, locals := 0 }
set_option maxHeartbeats 4000000 in
set_option maxRecDepth 100000 in
/-- link -/
theorem c_Links_link (l : Launch) (G : gG) (h : Nat) (q : Nat) (f : Nat → Nat) (a : Nat) (b : Nat) (ha : a < 7) (hb7 : b < 7) : gMet (S := Unit) l G yX1_link wsX1_link rm_c_Links_link [.ref h, .int (nI a), .int (nI b)] [(h, .inr (4, [.ref q])), (q, .inl (G.2.2.1 0, 7, .inl (nA f)))] (fun _ => True) (fun _ => none) (fun _ => [(h, .inr (4, [.ref q])), (q, .inl (G.2.2.1 0, 7, .inl (nA (lnk f a b))))]) := by
  refine gOf (maxL := 3) (ret := none) (cc := cX1_link) (by decide) rfl (Nat.le_of_ble_eq_true rfl) ?_
  intro P9 e9 s m9 args below meth c9 A ls H locs Q hQ hx hb hml hr hown hts hlocks hin hK hP hD hS hA hE hl
  have hown : s.vm.findClass RX1 = some m9.cls := hown
  have hl : lv_has ls 3 [(0, .ref h), (1, .int (nI a)), (2, .int (nI b))] := hl
  refine lv_aload_n hx hb dX1_link_0 rfl (lv_at hl 0 rfl) ?_
  refine va_get (D := gD G) (ci := 4) (v := .ref q) (C := RX1) (T := TX1) (N := 1) hx hb hts (by decide +kernel) hown hK hP 0 rfl rfl 0 (by decide) (hts (.fieldLink RX1 9 "Degreewall$Links" "near" "[I") (by decide +kernel)) (fun _ h9 => h9) rfl dX1_link_1 ?_
  refine lv_iload_n hx hb dX1_link_4 rfl (lv_at hl 1 rfl) ?_
  refine lv_dup2_11 hx hb dX1_link_5 rfl rfl ?_
  refine gN_iald hx hb hK hP 1 0 rfl rfl (by omega) (by decide) dX1_link_6 ?_
  refine lv_iconst (v := nI 1) hx hb dX1_link_7 (by decide) ?_
  refine lv_iload_n hx hb dX1_link_8 rfl (lv_at hl 2 rfl) ?_
  refine lv_ishl hx hb dX1_link_9 ?_
  refine gTop (y := (nI (2 ^ b))) (n_one_shl (by omega)) ?_
  refine lv_ior hx hb dX1_link_10 ?_
  refine gTop (y := (nI ((f a) ||| (2 ^ b)))) (n_or _ _) ?_
  refine gN_iast hx hb hK hP hD hS 1 0 rfl rfl (by omega) (by decide) dX1_link_11 (fun H locs hP hD hS => ?_)
  have hP : va_P (gD G) vwCl [(h, .inr (4, [.ref q])), (q, .inl (G.2.2.1 0, 7, .inl (nA (va_up f a ((f a) ||| (2 ^ b))))))] H := hP
  have hD : va_D A [(h, .inr (4, [.ref q])), (q, .inl (G.2.2.1 0, 7, .inl (nA (va_up f a ((f a) ||| (2 ^ b))))))] := hD
  refine lv_aload_n hx hb dX1_link_12 rfl (lv_at hl 0 rfl) ?_
  refine va_get (D := gD G) (ci := 4) (v := .ref q) (C := RX1) (T := TX1) (N := 1) hx hb hts (by decide +kernel) hown hK hP 0 rfl rfl 0 (by decide) (hts (.fieldLink RX1 9 "Degreewall$Links" "near" "[I") (by decide +kernel)) (fun _ h9 => h9) rfl dX1_link_13 ?_
  refine lv_iload_n hx hb dX1_link_16 rfl (lv_at hl 2 rfl) ?_
  refine lv_dup2_11 hx hb dX1_link_17 rfl rfl ?_
  refine gN_iald hx hb hK hP 1 0 rfl rfl (by omega) (by decide) dX1_link_18 ?_
  refine lv_iconst (v := nI 1) hx hb dX1_link_19 (by decide) ?_
  refine lv_iload_n hx hb dX1_link_20 rfl (lv_at hl 1 rfl) ?_
  refine lv_ishl hx hb dX1_link_21 ?_
  refine gTop (y := (nI (2 ^ a))) (n_one_shl (by omega)) ?_
  refine lv_ior hx hb dX1_link_22 ?_
  refine gTop (y := (nI (((va_up f a ((f a) ||| (2 ^ b))) b) ||| (2 ^ a)))) (n_or _ _) ?_
  refine gN_iast hx hb hK hP hD hS 1 0 rfl rfl (by omega) (by decide) dX1_link_23 (fun H locs hP hD hS => ?_)
  have hP : va_P (gD G) vwCl [(h, .inr (4, [.ref q])), (q, .inl (G.2.2.1 0, 7, .inl (nA (va_up (va_up f a ((f a) ||| (2 ^ b))) b (((va_up f a ((f a) ||| (2 ^ b))) b) ||| (2 ^ a))))))] H := hP
  have hD : va_D A [(h, .inr (4, [.ref q])), (q, .inl (G.2.2.1 0, 7, .inl (nA (va_up (va_up f a ((f a) ||| (2 ^ b))) b (((va_up f a ((f a) ||| (2 ^ b))) b) ||| (2 ^ a))))))] := hD
  exact gVret (hQ := hQ) hx hb hr hlocks hP hD hS () trivial (by rfl) [0, 1] (by decide) (by rfl) (Nat.le_of_ble_eq_true rfl) (Nat.le_of_ble_eq_true rfl) dX1_link_24

def rm_c_Links_cut : Room := { frames := 0, cells := 0, slots := 0, locals := 0 }
set_option maxHeartbeats 4000000 in
set_option maxRecDepth 100000 in
/-- cut -/
theorem c_Links_cut (l : Launch) (G : gG) (h : Nat) (q : Nat) (f : Nat → Nat) (a : Nat) (b : Nat) (ha : a < 7) (hb7 : b < 7) : gMet (S := Unit) l G yX1_cut wsX1_cut rm_c_Links_cut [.ref h, .int (nI a), .int (nI b)] [(h, .inr (4, [.ref q])), (q, .inl (G.2.2.1 0, 7, .inl (nA f)))] (fun _ => True) (fun _ => none) (fun _ => [(h, .inr (4, [.ref q])), (q, .inl (G.2.2.1 0, 7, .inl (nA (unl f a b))))]) := by
  refine gOf (maxL := 3) (ret := none) (cc := cX1_cut) (by decide) rfl (Nat.le_of_ble_eq_true rfl) ?_
  intro P9 e9 s m9 args below meth c9 A ls H locs Q hQ hx hb hml hr hown hts hlocks hin hK hP hD hS hA hE hl
  have hown : s.vm.findClass RX1 = some m9.cls := hown
  have hl : lv_has ls 3 [(0, .ref h), (1, .int (nI a)), (2, .int (nI b))] := hl
  refine lv_aload_n hx hb dX1_cut_0 rfl (lv_at hl 0 rfl) ?_
  refine va_get (D := gD G) (ci := 4) (v := .ref q) (C := RX1) (T := TX1) (N := 1) hx hb hts (by decide +kernel) hown hK hP 0 rfl rfl 0 (by decide) (hts (.fieldLink RX1 9 "Degreewall$Links" "near" "[I") (by decide +kernel)) (fun _ h9 => h9) rfl dX1_cut_1 ?_
  refine lv_iload_n hx hb dX1_cut_4 rfl (lv_at hl 1 rfl) ?_
  refine lv_dup2_11 hx hb dX1_cut_5 rfl rfl ?_
  refine gN_iald hx hb hK hP 1 0 rfl rfl (by omega) (by decide) dX1_cut_6 ?_
  refine lv_iconst (v := nI 1) hx hb dX1_cut_7 (by decide) ?_
  refine lv_iload_n hx hb dX1_cut_8 rfl (lv_at hl 2 rfl) ?_
  refine lv_ishl hx hb dX1_cut_9 ?_
  refine gTop (y := (nI (2 ^ b))) (n_one_shl (by omega)) ?_
  refine lv_iconst (v := (-1)) hx hb dX1_cut_10 (by decide) ?_
  refine lv_ixor hx hb dX1_cut_11 ?_
  refine lv_iand hx hb dX1_cut_12 ?_
  refine gTop (y := (nI (clr (f a) (2 ^ b)))) (n_andnot _ _) ?_
  refine gN_iast hx hb hK hP hD hS 1 0 rfl rfl (by omega) (by decide) dX1_cut_13 (fun H locs hP hD hS => ?_)
  have hP : va_P (gD G) vwCl [(h, .inr (4, [.ref q])), (q, .inl (G.2.2.1 0, 7, .inl (nA (va_up f a (clr (f a) (2 ^ b))))))] H := hP
  have hD : va_D A [(h, .inr (4, [.ref q])), (q, .inl (G.2.2.1 0, 7, .inl (nA (va_up f a (clr (f a) (2 ^ b))))))] := hD
  refine lv_aload_n hx hb dX1_cut_14 rfl (lv_at hl 0 rfl) ?_
  refine va_get (D := gD G) (ci := 4) (v := .ref q) (C := RX1) (T := TX1) (N := 1) hx hb hts (by decide +kernel) hown hK hP 0 rfl rfl 0 (by decide) (hts (.fieldLink RX1 9 "Degreewall$Links" "near" "[I") (by decide +kernel)) (fun _ h9 => h9) rfl dX1_cut_15 ?_
  refine lv_iload_n hx hb dX1_cut_18 rfl (lv_at hl 2 rfl) ?_
  refine lv_dup2_11 hx hb dX1_cut_19 rfl rfl ?_
  refine gN_iald hx hb hK hP 1 0 rfl rfl (by omega) (by decide) dX1_cut_20 ?_
  refine lv_iconst (v := nI 1) hx hb dX1_cut_21 (by decide) ?_
  refine lv_iload_n hx hb dX1_cut_22 rfl (lv_at hl 1 rfl) ?_
  refine lv_ishl hx hb dX1_cut_23 ?_
  refine gTop (y := (nI (2 ^ a))) (n_one_shl (by omega)) ?_
  refine lv_iconst (v := (-1)) hx hb dX1_cut_24 (by decide) ?_
  refine lv_ixor hx hb dX1_cut_25 ?_
  refine lv_iand hx hb dX1_cut_26 ?_
  refine gTop (y := (nI (clr ((va_up f a (clr (f a) (2 ^ b))) b) (2 ^ a)))) (n_andnot _ _) ?_
  refine gN_iast hx hb hK hP hD hS 1 0 rfl rfl (by omega) (by decide) dX1_cut_27 (fun H locs hP hD hS => ?_)
  have hP : va_P (gD G) vwCl [(h, .inr (4, [.ref q])), (q, .inl (G.2.2.1 0, 7, .inl (nA (va_up (va_up f a (clr (f a) (2 ^ b))) b (clr ((va_up f a (clr (f a) (2 ^ b))) b) (2 ^ a))))))] H := hP
  have hD : va_D A [(h, .inr (4, [.ref q])), (q, .inl (G.2.2.1 0, 7, .inl (nA (va_up (va_up f a (clr (f a) (2 ^ b))) b (clr ((va_up f a (clr (f a) (2 ^ b))) b) (2 ^ a))))))] := hD
  exact gVret (hQ := hQ) hx hb hr hlocks hP hD hS () trivial (by rfl) [0, 1] (by decide) (by rfl) (Nat.le_of_ble_eq_true rfl) (Nat.le_of_ble_eq_true rfl) dX1_cut_28

def rm_c_Links_widened : Room := { frames := 1, cells := 0, slots := 0, locals := 21 }
set_option maxHeartbeats 4000000 in
set_option maxRecDepth 100000 in
/-- widened(set) -/
theorem c_Links_widened (l : Launch) (G : gG) (h : Nat) (q : Nat) (f : Nat → Nat) (a : Nat) (ha : a < 2 ^ 31) : gMet (S := Unit) l G yX1_widened wsX1_widened rm_c_Links_widened [.ref h, .int (nI a)] [(h, .inr (4, [.ref q])), (q, .inl (G.2.2.1 0, 7, .inl (nA f)))] (fun _ => True) (fun _ => some (.int (nI (wid f a)))) (fun _ => [(h, .inr (4, [.ref q])), (q, .inl (G.2.2.1 0, 7, .inl (nA f)))]) := by
  refine gOf (maxL := 4) (ret := (some .int)) (cc := cX1_widened) (by decide) rfl (Nat.le_of_ble_eq_true rfl) ?_
  intro P9 e9 s m9 args below meth c9 A ls H locs Q hQ hx hb hml hr hown hts hlocks hin hK hP hD hS hA hE hl
  have hown : s.vm.findClass RX1 = some m9.cls := hown
  have hl : lv_has ls 4 [(0, .ref h), (1, .int (nI a))] := hl
  refine lv_iload_n hx hb dX1_widened_0 rfl (lv_at hl 1 rfl) ?_
  refine lv_istore_n (lv' := [(2, .int (nI a)), (0, .ref h), (1, .int (nI a))]) hx hb dX1_widened_1 rfl hl (by decide) rfl (fun ls hl => ?_)
  refine lv_iconst (v := nI 0) hx hb dX1_widened_2 (by decide) ?_
  refine lv_istore_n (lv' := [(3, .int (nI 0)), (2, .int (nI a)), (0, .ref h), (1, .int (nI a))]) hx hb dX1_widened_3 rfl hl (by decide) rfl (fun ls hl => ?_)
  suffices L1 : ∀ (n i : Nat), i + n = 7 → ∀ (H : Heap) (locs : List Loc), va_P (gD G) vwCl [(h, .inr (4, [.ref q])), (q, .inl (G.2.2.1 0, 7, .inl (nA f)))] H → va_D A [(h, .inr (4, [.ref q])), (q, .inl (G.2.2.1 0, 7, .inl (nA f)))] → va_S A s.heap H locs → ∀ ls : Array Slot, lv_has ls 4 [(0, .ref h), (1, .int (nI a)), (2, .int (nI (widN f a i))), (3, .int (nI i))] → W P9 l e9 rm_c_Links_widened s m9 args below meth c9 H locs 0 0 Q (F0 m9 4 ls []) by
    exact L1 _ 0  (Nat.add_sub_cancel' (by omega))  _ _ (hP.sub [0, 1] rfl) (hD.sub [0, 1] (by decide) rfl) hS _ (lv_sub hl [2, 3, 1, 0] rfl)
  intro n
  induction n with
  | zero =>
    intro i hi H locs hP hD hS ls hl
    refine lv_iload_n hx hb dX1_widened_4 rfl (lv_at hl 3 rfl) ?_
    refine lv_aload_n hx hb dX1_widened_5 rfl (lv_at hl 0 rfl) ?_
    refine va_get (D := gD G) (ci := 4) (v := .ref q) (C := RX1) (T := TX1) (N := 1) hx hb hts (by decide +kernel) hown hK hP 0 rfl rfl 0 (by decide) (hts (.fieldLink RX1 9 "Degreewall$Links" "near" "[I") (by decide +kernel)) (fun _ h9 => h9) rfl dX1_widened_6 ?_
    refine va_alen (v := nI 7) hx hb hK hP 1 0 rfl rfl rfl dX1_widened_9 ?_
    refine gN_ge (tgt := 36) hx hb dX1_widened_10 (by decide) (by omega) (by decide) (fun c2 => ?_) (fun c2 => absurd c2 (by omega))
    refine lv_iload_n hx hb dX1_widened_36 rfl (lv_at hl 2 rfl) ?_
    have e7 : i = 7 := by omega
    subst e7
    exact gIret (hQ := hQ) hx hb hr hlocks hP hD hS () trivial (by rfl) [0, 1] (by decide) (by rfl) (Nat.le_of_ble_eq_true rfl) (Nat.le_of_ble_eq_true rfl) dX1_widened_37
  | succ n ih =>
    intro i hi H locs hP hD hS ls hl
    refine lv_iload_n hx hb dX1_widened_4 rfl (lv_at hl 3 rfl) ?_
    refine lv_aload_n hx hb dX1_widened_5 rfl (lv_at hl 0 rfl) ?_
    refine va_get (D := gD G) (ci := 4) (v := .ref q) (C := RX1) (T := TX1) (N := 1) hx hb hts (by decide +kernel) hown hK hP 0 rfl rfl 0 (by decide) (hts (.fieldLink RX1 9 "Degreewall$Links" "near" "[I") (by decide +kernel)) (fun _ h9 => h9) rfl dX1_widened_6 ?_
    refine va_alen (v := nI 7) hx hb hK hP 1 0 rfl rfl rfl dX1_widened_9 ?_
    refine gN_ge (tgt := 36) hx hb dX1_widened_10 (by decide) (by omega) (by decide) (fun c3 => absurd c3 (by omega)) (fun c3 => ?_)
    refine lv_iload_n hx hb dX1_widened_13 rfl (lv_at hl 1 rfl) ?_
    refine lv_iload_n hx hb dX1_widened_14 rfl (lv_at hl 3 rfl) ?_
    refine gCSN (As := [.int (nI a), .int (nI i)]) (rest := []) (wr := [(h, .inr (4, [.ref q])), (q, .inl (G.2.2.1 0, 7, .inl (nA f)))]) hE (c_contains l G a i (by omega) (by omega)) ⟨va_cnB 2 hts ggX1_widened_X6_contains rfl rfl rfl (hE.nest 6 rfl) (hts (.initialized RX6) (by decide +kernel)) (by decide +kernel) ⟨Nat.le_of_ble_eq_true rfl, Nat.le_of_ble_eq_true rfl⟩, (hts (.static yX6_contains) (by decide +kernel)), trivial⟩ ⟨hx, hb, hml, hown, hts⟩ hK hP hD hS hA [] [0, 1] rfl rfl (by decide) (by decide) (by decide) rfl hl rfl (Nat.le_of_ble_eq_true rfl) dX1_widened_15 ⟨Nat.le_of_ble_eq_true rfl, Nat.le_of_ble_eq_true rfl⟩ (fun u9 H locs hu hP hD hS => ?_)
    have hP : va_P (gD G) vwCl [(h, .inr (4, [.ref q])), (q, .inl (G.2.2.1 0, 7, .inl (nA f)))] H := hP
    have hD : va_D A [(h, .inr (4, [.ref q])), (q, .inl (G.2.2.1 0, 7, .inl (nA f)))] := hD
    refine W.eq (g2 := F0 m9 18 ls [.int (nI ((a.testBit i).toNat))]) rfl ?_
    have hb1 : (a.testBit i).toNat < 2 ^ 31 := Nat.lt_of_le_of_lt (Bool.toNat_le _) (by decide)
    refine gN_eq0 (tgt := 30) hx hb dX1_widened_18 (by decide) (by omega) (fun c4 => ?_) (fun c4 => ?_)
    · refine lv_iinc (lv' := [(3, .int (nI (i + 1))), (0, .ref h), (1, .int (nI a)), (2, .int (nI (widN f a i)))]) hx hb dX1_widened_30 hl (k := 3) rfl (n_inc _) (by decide) rfl (fun ls hl => ?_)
      refine lv_goto (tgt := 4) hx hb dX1_widened_33 (by decide) ?_
      have ew : widN f a (i + 1) = widN f a i := widN_f (tb_f c4)
      rw [← ew] at hl
      exact ih (i + 1)  (by omega)  _ _ (hP.sub [0, 1] rfl) (hD.sub [0, 1] (by decide) rfl) hS _ (lv_sub hl [1, 2, 3, 0] rfl)
    · refine lv_iload_n hx hb dX1_widened_21 rfl (lv_at hl 2 rfl) ?_
      refine lv_aload_n hx hb dX1_widened_22 rfl (lv_at hl 0 rfl) ?_
      refine va_get (D := gD G) (ci := 4) (v := .ref q) (C := RX1) (T := TX1) (N := 1) hx hb hts (by decide +kernel) hown hK hP 0 rfl rfl 0 (by decide) (hts (.fieldLink RX1 9 "Degreewall$Links" "near" "[I") (by decide +kernel)) (fun _ h9 => h9) rfl dX1_widened_23 ?_
      refine lv_iload_n hx hb dX1_widened_26 rfl (lv_at hl 3 rfl) ?_
      refine gN_iald hx hb hK hP 1 0 rfl rfl (by omega) (by decide) dX1_widened_27 ?_
      refine lv_ior hx hb dX1_widened_28 ?_
      refine gTop (y := (nI ((widN f a i) ||| (f i)))) (n_or _ _) ?_
      refine lv_istore_n (lv' := [(2, .int (nI ((widN f a i) ||| (f i)))), (0, .ref h), (1, .int (nI a)), (3, .int (nI i))]) hx hb dX1_widened_29 rfl hl (by decide) rfl (fun ls hl => ?_)
      refine lv_iinc (lv' := [(3, .int (nI (i + 1))), (2, .int (nI ((widN f a i) ||| (f i)))), (0, .ref h), (1, .int (nI a))]) hx hb dX1_widened_30 hl (k := 3) rfl (n_inc _) (by decide) rfl (fun ls hl => ?_)
      refine lv_goto (tgt := 4) hx hb dX1_widened_33 (by decide) ?_
      have ew : widN f a (i + 1) = (widN f a i) ||| (f i) := widN_t (tb_t c4)
      rw [← ew] at hl
      exact ih (i + 1)  (by omega)  _ _ (hP.sub [0, 1] rfl) (hD.sub [0, 1] (by decide) rfl) hS _ (lv_sub hl [2, 3, 1, 0] rfl)

def rm_c_Links_reach : Room := { frames := 2, cells := 0, slots := 0, locals := 44 }
set_option maxHeartbeats 4000000 in
set_option maxRecDepth 100000 in
/-- reach(start, steps) -/
theorem c_Links_reach (l : Launch) (G : gG) (h : Nat) (q : Nat) (f : Nat → Nat) (a : Nat) (k : Nat) (hf : m7 f) (ha : a < 7) (hk : k < 2 ^ 31) : gMet (S := Unit) l G yX1_reach wsX1_reach rm_c_Links_reach [.ref h, .int (nI a), .int (nI k)] [(h, .inr (4, [.ref q])), (q, .inl (G.2.2.1 0, 7, .inl (nA f)))] (fun _ => True) (fun _ => some (.int (nI (rchN f (2 ^ a) k)))) (fun _ => [(h, .inr (4, [.ref q])), (q, .inl (G.2.2.1 0, 7, .inl (nA f)))]) := by
  refine gOf (maxL := 5) (ret := (some .int)) (cc := cX1_reach) (by decide) rfl (Nat.le_of_ble_eq_true rfl) ?_
  intro P9 e9 s m9 args below meth c9 A ls H locs Q hQ hx hb hml hr hown hts hlocks hin hK hP hD hS hA hE hl
  have hown : s.vm.findClass RX1 = some m9.cls := hown
  have hl : lv_has ls 5 [(0, .ref h), (1, .int (nI a)), (2, .int (nI k))] := hl
  refine lv_iconst (v := nI 1) hx hb dX1_reach_0 (by decide) ?_
  refine lv_iload_n hx hb dX1_reach_1 rfl (lv_at hl 1 rfl) ?_
  refine lv_ishl hx hb dX1_reach_2 ?_
  refine gTop (y := (nI (2 ^ a))) (n_one_shl (by omega)) ?_
  refine lv_istore_n (lv' := [(3, .int (nI (2 ^ a))), (0, .ref h), (1, .int (nI a)), (2, .int (nI k))]) hx hb dX1_reach_3 rfl hl (by decide) rfl (fun ls hl => ?_)
  refine lv_iconst (v := nI 0) hx hb dX1_reach_4 (by decide) ?_
  refine lv_istore (lv' := [(4, .int (nI 0)), (3, .int (nI (2 ^ a))), (0, .ref h), (1, .int (nI a)), (2, .int (nI k))]) hx hb dX1_reach_5 hl (by decide) rfl (fun ls hl => ?_)
  suffices L1 : ∀ (n i : Nat), i + n = k → ∀ (H : Heap) (locs : List Loc), va_P (gD G) vwCl [(h, .inr (4, [.ref q])), (q, .inl (G.2.2.1 0, 7, .inl (nA f)))] H → va_D A [(h, .inr (4, [.ref q])), (q, .inl (G.2.2.1 0, 7, .inl (nA f)))] → va_S A s.heap H locs → ∀ ls : Array Slot, lv_has ls 5 [(0, .ref h), (1, .int (nI a)), (2, .int (nI k)), (3, .int (nI (rchN f (2 ^ a) i))), (4, .int (nI i))] → W P9 l e9 rm_c_Links_reach s m9 args below meth c9 H locs 0 0 Q (F0 m9 7 ls []) by
    exact L1 _ 0  (Nat.add_sub_cancel' (by omega))  _ _ (hP.sub [0, 1] rfl) (hD.sub [0, 1] (by decide) rfl) hS _ (lv_sub hl [2, 3, 4, 1, 0] rfl)
  intro n
  induction n with
  | zero =>
    intro i hi H locs hP hD hS ls hl
    refine lv_iload hx hb dX1_reach_7 (lv_at hl 4 rfl) ?_
    refine lv_iload_n hx hb dX1_reach_9 rfl (lv_at hl 2 rfl) ?_
    refine gN_ge (tgt := 25) hx hb dX1_reach_10 (by decide) (by omega) (by omega) (fun c2 => ?_) (fun c2 => absurd c2 (by omega))
    refine lv_iload_n hx hb dX1_reach_25 rfl (lv_at hl 3 rfl) ?_
    have e7 : i = k := by omega
    subst e7
    exact gIret (hQ := hQ) hx hb hr hlocks hP hD hS () trivial (by rfl) [0, 1] (by decide) (by rfl) (Nat.le_of_ble_eq_true rfl) (Nat.le_of_ble_eq_true rfl) dX1_reach_26
  | succ n ih =>
    intro i hi H locs hP hD hS ls hl
    refine lv_iload hx hb dX1_reach_7 (lv_at hl 4 rfl) ?_
    refine lv_iload_n hx hb dX1_reach_9 rfl (lv_at hl 2 rfl) ?_
    refine gN_ge (tgt := 25) hx hb dX1_reach_10 (by decide) (by omega) (by omega) (fun c3 => absurd c3 (by omega)) (fun c3 => ?_)
    have hr7 := rchN_lt hf (two_pow7 a ha) i
    refine lv_aload_n hx hb dX1_reach_13 rfl (lv_at hl 0 rfl) ?_
    refine lv_iload_n hx hb dX1_reach_14 rfl (lv_at hl 3 rfl) ?_
    refine gCV (ci := 4) (q0 := 0) (C := RX1) (As := [.int (nI (rchN f (2 ^ a) i))]) (rest := []) (wr := []) hE (c_Links_widened l G h q f (rchN f (2 ^ a) i) (by omega)) (cwV 1 hts gX1_reach_X1_widened rfl rfl rfl (by decide +kernel) ⟨Nat.le_of_ble_eq_true rfl, Nat.le_of_ble_eq_true rfl⟩) ⟨hx, hb, hml, hown, hts⟩ hK hP hD hS hA [0, 1] [] rfl rfl (by decide) (by decide) (by decide) rfl rfl rfl hl rfl (Nat.le_of_ble_eq_true rfl) dX1_reach_15 ⟨Nat.le_of_ble_eq_true rfl, Nat.le_of_ble_eq_true rfl⟩ (fun u9 H locs hu hP hD hS => ?_)
    have hP : va_P (gD G) vwCl [(h, .inr (4, [.ref q])), (q, .inl (G.2.2.1 0, 7, .inl (nA f)))] H := hP
    have hD : va_D A [(h, .inr (4, [.ref q])), (q, .inl (G.2.2.1 0, 7, .inl (nA f)))] := hD
    refine W.eq (g2 := F0 m9 18 ls [.int (nI (wid f (rchN f (2 ^ a) i)))]) rfl ?_
    refine lv_istore_n (lv' := [(3, .int (nI (wid f (rchN f (2 ^ a) i)))), (0, .ref h), (1, .int (nI a)), (2, .int (nI k)), (4, .int (nI i))]) hx hb dX1_reach_18 rfl hl (by decide) rfl (fun ls hl => ?_)
    refine lv_iinc (lv' := [(4, .int (nI (i + 1))), (3, .int (nI (wid f (rchN f (2 ^ a) i)))), (0, .ref h), (1, .int (nI a)), (2, .int (nI k))]) hx hb dX1_reach_19 hl (k := 4) rfl (n_inc _) (by decide) rfl (fun ls hl => ?_)
    refine lv_goto (tgt := 7) hx hb dX1_reach_22 (by decide) ?_
    exact ih (i + 1)  (by omega)  _ _ (hP.sub [0, 1] rfl) (hD.sub [0, 1] (by decide) rfl) hS _ (lv_sub hl [2, 3, 4, 1, 0] rfl)
