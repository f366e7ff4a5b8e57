def rm_c_isShut : Room := { frames := 0, cells := 1, slots := 6, locals := 0 }
set_option maxHeartbeats 4000000 in
set_option maxRecDepth 100000 in
/-- isShut(near, permits, many, without) -/
theorem c_isShut (l : Launch) (G : gG) (ne : Nat) (pe : Nat) (LP : List Nat) (D : Nat → Nat → Nat) (g : Nat → Nat) (f : Nat → Option Nat) (pa : Nat → Nat) (n : Nat) (w : Nat) (hn8 : n ≤ 8) (hw : w < 256) (hg : ∀ k, k < 6 → g k < 128) (hpf : ∀ k, k < n → f k = some (pa k)) (hpa : ∀ k, k < n → pa k ∈ LP) (hSB : ∀ k, k < n → D (pa k) 0 < 6 ∧ D (pa k) 1 < 6) : gMet (S := Nat × (Nat → Nat)) l G yL_isShut wsL_isShut rm_c_isShut [.ref ne, .ref pe, .int (nI n), .int (nI w)] ([(ne, .inl (G.2.2.1 0, 6, .inl (nA g))), (pe, .inl (G.2.2.1 1, 8, .inr (.inr (.inr (.inr f)))))] ++ (va_pl LP (iF G D))) (fun u => (PW (fun k => D (pa k) 0) (fun k => D (pa k) 1) w n u.2 ∧ dnE (fun k => D (pa k) 0) (fun k => D (pa k) 1) w u.2 n) ∧ ((u.1 = 1 ∧ ∀ k, k < 6 → u.2 k &&& g k = 0) ∨ (u.1 = 0 ∧ ∃ k, k < 6 ∧ u.2 k &&& g k ≠ 0))) (fun u => some (.int (nI u.1))) (fun _ => ([(ne, .inl (G.2.2.1 0, 6, .inl (nA g))), (pe, .inl (G.2.2.1 1, 8, .inr (.inr (.inr (.inr f)))))] ++ (va_pl LP (iF G D)))) := by
  refine gOf (maxL := 9) (ret := (some .boolean)) (cc := cL_isShut) (by decide) rfl (Nat.le_of_ble_eq_true rfl) ?_
  intro P9 e9 s m9 args below meth c9 A ls H locs Q hQ hx hb hml hr hown hts hlocks hin hK hP hD hS hA hE hl
  have hown : s.vm.findClass RL = some m9.cls := hown
  have hl : lv_has ls 9 [(0, .ref ne), (1, .ref pe), (2, .int (nI n)), (3, .int (nI w))] := hl
  refine lv_bipush (v := nI 6) hx hb dL_isShut_0 (by decide) ?_
  refine gN_newa (n := 6) hx hb (hts (.arrayClass .int) (by decide +kernel)) hK hP hD hS hA (by decide) (by decide) (Nat.le_of_ble_eq_true rfl) (Nat.le_of_ble_eq_true rfl) dL_isShut_2 (fun q1 H hP hD hS => ?_)
  have hP := va_P.swap hP
  have hD := va_D.swap hD
  have hP : va_P (gD G) vwCl ([(ne, .inl (G.2.2.1 0, 6, .inl (nA g))), (pe, .inl (G.2.2.1 1, 8, .inr (.inr (.inr (.inr f))))), (q1, .inl (G.2.2.1 0, 6, .inl (nA (fun _ => 0))))] ++ (va_pl LP (iF G D))) H := hP
  have hD : va_D A ([(ne, .inl (G.2.2.1 0, 6, .inl (nA g))), (pe, .inl (G.2.2.1 1, 8, .inr (.inr (.inr (.inr f))))), (q1, .inl (G.2.2.1 0, 6, .inl (nA (fun _ => 0))))] ++ (va_pl LP (iF G D))) := hD
  refine W.widen (k := 1) (n := 6) (Nat.le_of_ble_eq_true rfl) (Nat.le_of_ble_eq_true rfl) ?_
  refine lv_dup hx hb dL_isShut_4 rfl ?_
  refine lv_iconst (v := nI 0) hx hb dL_isShut_5 (by decide) ?_
  refine lv_iconst (v := nI 1) hx hb dL_isShut_6 (by decide) ?_
  refine gN_iast hx hb hK hP hD hS 2 0 rfl rfl (by omega) (by decide) dL_isShut_7 (fun H locs hP hD hS => ?_)
  have hP : va_P (gD G) vwCl ([(ne, .inl (G.2.2.1 0, 6, .inl (nA g))), (pe, .inl (G.2.2.1 1, 8, .inr (.inr (.inr (.inr f))))), (q1, .inl (G.2.2.1 0, 6, .inl (nA (va_up (fun _ => 0) 0 1))))] ++ (va_pl LP (iF G D))) H := hP
  have hD : va_D A ([(ne, .inl (G.2.2.1 0, 6, .inl (nA g))), (pe, .inl (G.2.2.1 1, 8, .inr (.inr (.inr (.inr f))))), (q1, .inl (G.2.2.1 0, 6, .inl (nA (va_up (fun _ => 0) 0 1))))] ++ (va_pl LP (iF G D))) := hD
  refine lv_dup hx hb dL_isShut_8 rfl ?_
  refine lv_iconst (v := nI 1) hx hb dL_isShut_9 (by decide) ?_
  refine lv_iconst (v := nI 2) hx hb dL_isShut_10 (by decide) ?_
  refine gN_iast hx hb hK hP hD hS 2 0 rfl rfl (by omega) (by decide) dL_isShut_11 (fun H locs hP hD hS => ?_)
  have hP : va_P (gD G) vwCl ([(ne, .inl (G.2.2.1 0, 6, .inl (nA g))), (pe, .inl (G.2.2.1 1, 8, .inr (.inr (.inr (.inr f))))), (q1, .inl (G.2.2.1 0, 6, .inl (nA (va_up (va_up (fun _ => 0) 0 1) 1 2))))] ++ (va_pl LP (iF G D))) H := hP
  have hD : va_D A ([(ne, .inl (G.2.2.1 0, 6, .inl (nA g))), (pe, .inl (G.2.2.1 1, 8, .inr (.inr (.inr (.inr f))))), (q1, .inl (G.2.2.1 0, 6, .inl (nA (va_up (va_up (fun _ => 0) 0 1) 1 2))))] ++ (va_pl LP (iF G D))) := hD
  refine lv_dup hx hb dL_isShut_12 rfl ?_
  refine lv_iconst (v := nI 2) hx hb dL_isShut_13 (by decide) ?_
  refine lv_iconst (v := nI 4) hx hb dL_isShut_14 (by decide) ?_
  refine gN_iast hx hb hK hP hD hS 2 0 rfl rfl (by omega) (by decide) dL_isShut_15 (fun H locs hP hD hS => ?_)
  have hP : va_P (gD G) vwCl ([(ne, .inl (G.2.2.1 0, 6, .inl (nA g))), (pe, .inl (G.2.2.1 1, 8, .inr (.inr (.inr (.inr f))))), (q1, .inl (G.2.2.1 0, 6, .inl (nA (va_up (va_up (va_up (fun _ => 0) 0 1) 1 2) 2 4))))] ++ (va_pl LP (iF G D))) H := hP
  have hD : va_D A ([(ne, .inl (G.2.2.1 0, 6, .inl (nA g))), (pe, .inl (G.2.2.1 1, 8, .inr (.inr (.inr (.inr f))))), (q1, .inl (G.2.2.1 0, 6, .inl (nA (va_up (va_up (va_up (fun _ => 0) 0 1) 1 2) 2 4))))] ++ (va_pl LP (iF G D))) := hD
  refine lv_dup hx hb dL_isShut_16 rfl ?_
  refine lv_iconst (v := nI 3) hx hb dL_isShut_17 (by decide) ?_
  refine lv_bipush (v := nI 8) hx hb dL_isShut_18 (by decide) ?_
  refine gN_iast hx hb hK hP hD hS 2 0 rfl rfl (by omega) (by decide) dL_isShut_20 (fun H locs hP hD hS => ?_)
  have hP : va_P (gD G) vwCl ([(ne, .inl (G.2.2.1 0, 6, .inl (nA g))), (pe, .inl (G.2.2.1 1, 8, .inr (.inr (.inr (.inr f))))), (q1, .inl (G.2.2.1 0, 6, .inl (nA (va_up (va_up (va_up (va_up (fun _ => 0) 0 1) 1 2) 2 4) 3 8))))] ++ (va_pl LP (iF G D))) H := hP
  have hD : va_D A ([(ne, .inl (G.2.2.1 0, 6, .inl (nA g))), (pe, .inl (G.2.2.1 1, 8, .inr (.inr (.inr (.inr f))))), (q1, .inl (G.2.2.1 0, 6, .inl (nA (va_up (va_up (va_up (va_up (fun _ => 0) 0 1) 1 2) 2 4) 3 8))))] ++ (va_pl LP (iF G D))) := hD
  refine lv_dup hx hb dL_isShut_21 rfl ?_
  refine lv_iconst (v := nI 4) hx hb dL_isShut_22 (by decide) ?_
  refine lv_bipush (v := nI 16) hx hb dL_isShut_23 (by decide) ?_
  refine gN_iast hx hb hK hP hD hS 2 0 rfl rfl (by omega) (by decide) dL_isShut_25 (fun H locs hP hD hS => ?_)
  have hP : va_P (gD G) vwCl ([(ne, .inl (G.2.2.1 0, 6, .inl (nA g))), (pe, .inl (G.2.2.1 1, 8, .inr (.inr (.inr (.inr f))))), (q1, .inl (G.2.2.1 0, 6, .inl (nA (va_up (va_up (va_up (va_up (va_up (fun _ => 0) 0 1) 1 2) 2 4) 3 8) 4 16))))] ++ (va_pl LP (iF G D))) H := hP
  have hD : va_D A ([(ne, .inl (G.2.2.1 0, 6, .inl (nA g))), (pe, .inl (G.2.2.1 1, 8, .inr (.inr (.inr (.inr f))))), (q1, .inl (G.2.2.1 0, 6, .inl (nA (va_up (va_up (va_up (va_up (va_up (fun _ => 0) 0 1) 1 2) 2 4) 3 8) 4 16))))] ++ (va_pl LP (iF G D))) := hD
  refine lv_dup hx hb dL_isShut_26 rfl ?_
  refine lv_iconst (v := nI 5) hx hb dL_isShut_27 (by decide) ?_
  refine lv_bipush (v := nI 32) hx hb dL_isShut_28 (by decide) ?_
  refine gN_iast hx hb hK hP hD hS 2 0 rfl rfl (by omega) (by decide) dL_isShut_30 (fun H locs hP hD hS => ?_)
  have hP : va_P (gD G) vwCl ([(ne, .inl (G.2.2.1 0, 6, .inl (nA g))), (pe, .inl (G.2.2.1 1, 8, .inr (.inr (.inr (.inr f))))), (q1, .inl (G.2.2.1 0, 6, .inl (nA (va_up (va_up (va_up (va_up (va_up (va_up (fun _ => 0) 0 1) 1 2) 2 4) 3 8) 4 16) 5 32))))] ++ (va_pl LP (iF G D))) H := hP
  have hD : va_D A ([(ne, .inl (G.2.2.1 0, 6, .inl (nA g))), (pe, .inl (G.2.2.1 1, 8, .inr (.inr (.inr (.inr f))))), (q1, .inl (G.2.2.1 0, 6, .inl (nA (va_up (va_up (va_up (va_up (va_up (va_up (fun _ => 0) 0 1) 1 2) 2 4) 3 8) 4 16) 5 32))))] ++ (va_pl LP (iF G D))) := hD
  refine lv_astore (lv' := [(4, .ref q1), (0, .ref ne), (1, .ref pe), (2, .int (nI n)), (3, .int (nI w))]) hx hb dL_isShut_31 hl (by decide) rfl (fun ls hl => ?_)
  obtain ⟨W0, hW0⟩ : ∃ z, z = va_up (va_up (va_up (va_up (va_up (va_up (fun _ => 0) 0 1) 1 2) 2 4) 3 8) 4 16) 5 32 := ⟨_, rfl⟩
  rw [← hW0] at hP hD
  have hP : va_P (gD G) vwCl ([(ne, .inl (G.2.2.1 0, 6, .inl (nA g))), (pe, .inl (G.2.2.1 1, 8, .inr (.inr (.inr (.inr f))))), (q1, .inl (G.2.2.1 0, 6, .inl (nA W0)))] ++ (va_pl LP (iF G D))) H := hP
  have hD : va_D A ([(ne, .inl (G.2.2.1 0, 6, .inl (nA g))), (pe, .inl (G.2.2.1 1, 8, .inr (.inr (.inr (.inr f))))), (q1, .inl (G.2.2.1 0, 6, .inl (nA W0)))] ++ (va_pl LP (iF G D))) := hD
  have hPW0 : PW (fun k => D (pa k) 0) (fun k => D (pa k) 1) w n W0 := PW_0 _ _ _ _ (fun i hi => by rw [hW0]; rcases (show i = 0 ∨ i = 1 ∨ i = 2 ∨ i = 3 ∨ i = 4 ∨ i = 5 by omega) with rfl | rfl | rfl | rfl | rfl | rfl <;> rfl)
  obtain ⟨wi, hwi⟩ : ∃ z, z = q1 := ⟨_, rfl⟩
  rw [← hwi] at hP hD hl
  have hP : va_P (gD G) vwCl ([(ne, .inl (G.2.2.1 0, 6, .inl (nA g))), (pe, .inl (G.2.2.1 1, 8, .inr (.inr (.inr (.inr f))))), (wi, .inl (G.2.2.1 0, 6, .inl (nA W0)))] ++ (va_pl LP (iF G D))) H := hP
  have hD : va_D A ([(ne, .inl (G.2.2.1 0, 6, .inl (nA g))), (pe, .inl (G.2.2.1 1, 8, .inr (.inr (.inr (.inr f))))), (wi, .inl (G.2.2.1 0, 6, .inl (nA W0)))] ++ (va_pl LP (iF G D))) := hD
  have hl : lv_has ls 9 [(4, .ref wi), (0, .ref ne), (1, .ref pe), (2, .int (nI n)), (3, .int (nI w))] := hl
  refine lv_iconst (v := nI 0) hx hb dL_isShut_33 (by decide) ?_
  refine lv_istore (lv' := [(5, .int (nI 0)), (4, .ref wi), (0, .ref ne), (1, .ref pe), (2, .int (nI n)), (3, .int (nI w))]) hx hb dL_isShut_34 hl (by decide) rfl (fun ls hl => ?_)
  suffices L2 : ∀ (n1 i : Nat) (Wa : Nat → Nat), i + n1 = 6 → (PW (fun k => D (pa k) 0) (fun k => D (pa k) 1) w n Wa) → (0 < i → dnE (fun k => D (pa k) 0) (fun k => D (pa k) 1) w Wa n) → ∀ (H : Heap) (locs : List Loc), va_P (gD G) vwCl ([(ne, .inl (G.2.2.1 0, 6, .inl (nA g))), (pe, .inl (G.2.2.1 1, 8, .inr (.inr (.inr (.inr f))))), (wi, .inl (G.2.2.1 0, 6, .inl (nA Wa)))] ++ (va_pl LP (iF G D))) H → va_D A ([(ne, .inl (G.2.2.1 0, 6, .inl (nA g))), (pe, .inl (G.2.2.1 1, 8, .inr (.inr (.inr (.inr f))))), (wi, .inl (G.2.2.1 0, 6, .inl (nA Wa)))] ++ (va_pl LP (iF G D))) → va_S A s.heap H locs → ∀ ls : Array Slot, lv_has ls 9 [(0, .ref ne), (1, .ref pe), (2, .int (nI n)), (3, .int (nI w)), (4, .ref wi), (5, .int (nI i))] → W P9 l e9 rm_c_isShut s m9 args below meth c9 H locs 1 6 Q (F0 m9 36 ls []) by
    exact L2 _ 0 W0 (Nat.add_sub_cancel' (by omega)) hPW0 (fun h9 => absurd h9 (by omega)) _ _ (gtP hP [0, 1, 2] rfl) (gtD hD [0, 1, 2] (by decide) rfl) hS _ (lv_sub hl [2, 3, 4, 5, 1, 0] rfl)
  intro n1
  induction n1 with
  | zero =>
    intro i Wa hi1 hP1 hd1 H locs hP hD hS ls hl
    refine lv_iload hx hb dL_isShut_36 (lv_at hl 5 rfl) ?_
    refine lv_bipush (v := nI 6) hx hb dL_isShut_38 (by decide) ?_
    refine gN_ge (tgt := 135) hx hb dL_isShut_40 (by decide) (by omega) (by decide) (fun c3 => ?_) (fun c3 => absurd c3 (by omega))
    have e6 : i = 6 := by omega
    have hd9 := hd1 (by omega)
    refine lv_iconst (v := nI 0) hx hb dL_isShut_135 (by decide) ?_
    refine lv_istore (lv' := [(5, .int (nI 0)), (0, .ref ne), (1, .ref pe), (2, .int (nI n)), (3, .int (nI w)), (4, .ref wi)]) hx hb dL_isShut_136 hl (by decide) rfl (fun ls hl => ?_)
    suffices L4 : ∀ (n4 j : Nat), j + n4 = 6 → (∀ k, k < j → Wa k &&& g k = 0) → ∀ (H : Heap) (locs : List Loc), va_P (gD G) vwCl ([(ne, .inl (G.2.2.1 0, 6, .inl (nA g))), (pe, .inl (G.2.2.1 1, 8, .inr (.inr (.inr (.inr f))))), (wi, .inl (G.2.2.1 0, 6, .inl (nA Wa)))] ++ (va_pl LP (iF G D))) H → va_D A ([(ne, .inl (G.2.2.1 0, 6, .inl (nA g))), (pe, .inl (G.2.2.1 1, 8, .inr (.inr (.inr (.inr f))))), (wi, .inl (G.2.2.1 0, 6, .inl (nA Wa)))] ++ (va_pl LP (iF G D))) → va_S A s.heap H locs → ∀ ls : Array Slot, lv_has ls 9 [(0, .ref ne), (1, .ref pe), (2, .int (nI n)), (3, .int (nI w)), (4, .ref wi), (5, .int (nI j))] → W P9 l e9 rm_c_isShut s m9 args below meth c9 H locs 1 6 Q (F0 m9 138 ls []) by
      exact L4 _ 0  (Nat.add_sub_cancel' (by omega)) (fun k hk => absurd hk (Nat.not_lt_zero k)) _ _ (gtP hP [0, 1, 2] rfl) (gtD hD [0, 1, 2] (by decide) rfl) hS _ (lv_sub hl [1, 2, 3, 4, 5, 0] rfl)
    intro n4
    induction n4 with
    | zero =>
      intro j hi4 hz H locs hP hD hS ls hl
      refine lv_iload hx hb dL_isShut_138 (lv_at hl 5 rfl) ?_
      refine lv_bipush (v := nI 6) hx hb dL_isShut_140 (by decide) ?_
      refine gN_ge (tgt := 166) hx hb dL_isShut_142 (by decide) (by omega) (by decide) (fun c5 => ?_) (fun c5 => absurd c5 (by omega))
      refine lv_iconst (v := nI 1) hx hb dL_isShut_166 (by decide) ?_
      exact gZretT (hQ := hQ) hx hb hr hlocks (by first | exact Or.inl rfl | exact Or.inr rfl) hS (1, Wa) ⟨⟨hP1, hd9⟩, Or.inl ⟨rfl, (fun k hk => hz k (by omega))⟩⟩ (by rfl) (gtP hP [0, 1] rfl) (gtD hD [0, 1] (by decide) rfl) (Nat.le_of_ble_eq_true rfl) (Nat.le_of_ble_eq_true rfl) dL_isShut_167
    | succ n4 ih4 =>
      intro j hi4 hz H locs hP hD hS ls hl
      refine lv_iload hx hb dL_isShut_138 (lv_at hl 5 rfl) ?_
      refine lv_bipush (v := nI 6) hx hb dL_isShut_140 (by decide) ?_
      refine gN_ge (tgt := 166) hx hb dL_isShut_142 (by decide) (by omega) (by decide) (fun c6 => absurd c6 (by omega)) (fun c6 => ?_)
      refine lv_aload hx hb dL_isShut_145 (lv_at hl 4 rfl) ?_
      refine lv_iload hx hb dL_isShut_147 (lv_at hl 5 rfl) ?_
      refine gN_iald hx hb hK hP 2 0 rfl rfl (by omega) (by decide) dL_isShut_149 ?_
      refine lv_aload_n hx hb dL_isShut_150 rfl (lv_at hl 0 rfl) ?_
      refine lv_iload hx hb dL_isShut_151 (lv_at hl 5 rfl) ?_
      refine gN_iald hx hb hK hP 0 0 rfl rfl (by omega) (by decide) dL_isShut_153 ?_
      have hWj := (hP1.1 j (by omega)).1
      have hWg : Wa j &&& g j < 2 ^ 31 := Nat.lt_of_le_of_lt Nat.and_le_left (by omega)
      refine lv_iand hx hb dL_isShut_154 ?_
      refine gTop (y := (nI ((Wa j) &&& (g j)))) (n_and _ _) ?_
      refine gN_eq0 (tgt := 160) hx hb dL_isShut_155 (by decide) (by omega) (fun c7 => ?_) (fun c7 => ?_)
      · refine lv_iinc (lv' := [(5, .int (nI (j + 1))), (0, .ref ne), (1, .ref pe), (2, .int (nI n)), (3, .int (nI w)), (4, .ref wi)]) hx hb dL_isShut_160 hl (k := 5) rfl (n_inc _) (by decide) rfl (fun ls hl => ?_)
        refine lv_goto (tgt := 138) hx hb dL_isShut_163 (by decide) ?_
        exact ih4 (j + 1)  (by omega) (fun k hk => if e9 : k = j then (by rw [e9]; exact c7) else hz k (by omega)) _ _ (gtP hP [0, 1, 2] rfl) (gtD hD [0, 1, 2] (by decide) rfl) hS _ (lv_sub hl [1, 2, 3, 4, 5, 0] rfl)
      · refine lv_iconst (v := nI 0) hx hb dL_isShut_158 (by decide) ?_
        exact gZretT (hQ := hQ) hx hb hr hlocks (by first | exact Or.inl rfl | exact Or.inr rfl) hS (0, Wa) ⟨⟨hP1, hd9⟩, Or.inr ⟨rfl, j, by omega, c7⟩⟩ (by rfl) (gtP hP [0, 1] rfl) (gtD hD [0, 1] (by decide) rfl) (Nat.le_of_ble_eq_true rfl) (Nat.le_of_ble_eq_true rfl) dL_isShut_159
  | succ n1 ih1 =>
    intro i Wa hi1 hP1 hd1 H locs hP hD hS ls hl
    refine lv_iload hx hb dL_isShut_36 (lv_at hl 5 rfl) ?_
    refine lv_bipush (v := nI 6) hx hb dL_isShut_38 (by decide) ?_
    refine gN_ge (tgt := 135) hx hb dL_isShut_40 (by decide) (by omega) (by decide) (fun c8 => absurd c8 (by omega)) (fun c8 => ?_)
    refine lv_iconst (v := nI 0) hx hb dL_isShut_43 (by decide) ?_
    refine lv_istore (lv' := [(6, .int (nI 0)), (0, .ref ne), (1, .ref pe), (2, .int (nI n)), (3, .int (nI w)), (4, .ref wi), (5, .int (nI i))]) hx hb dL_isShut_44 hl (by decide) rfl (fun ls hl => ?_)
    suffices L9 : ∀ (n2 k : Nat) (V : Nat → Nat), k + n2 = n → (PW (fun k => D (pa k) 0) (fun k => D (pa k) 1) w n V) → (dnE (fun k => D (pa k) 0) (fun k => D (pa k) 1) w V k ∧ (0 < i → dnE (fun k => D (pa k) 0) (fun k => D (pa k) 1) w V n)) → ∀ (H : Heap) (locs : List Loc), va_P (gD G) vwCl ([(ne, .inl (G.2.2.1 0, 6, .inl (nA g))), (pe, .inl (G.2.2.1 1, 8, .inr (.inr (.inr (.inr f))))), (wi, .inl (G.2.2.1 0, 6, .inl (nA V)))] ++ (va_pl LP (iF G D))) H → va_D A ([(ne, .inl (G.2.2.1 0, 6, .inl (nA g))), (pe, .inl (G.2.2.1 1, 8, .inr (.inr (.inr (.inr f))))), (wi, .inl (G.2.2.1 0, 6, .inl (nA V)))] ++ (va_pl LP (iF G D))) → va_S A s.heap H locs → ∀ ls : Array Slot, lv_has ls 9 [(0, .ref ne), (1, .ref pe), (2, .int (nI n)), (3, .int (nI w)), (4, .ref wi), (5, .int (nI i)), (6, .int (nI k))] → W P9 l e9 rm_c_isShut s m9 args below meth c9 H locs 1 6 Q (F0 m9 46 ls []) by
      exact L9 _ 0 Wa (Nat.add_sub_cancel' (by omega)) hP1 (⟨(fun j hj => absurd hj (Nat.not_lt_zero j)), hd1⟩) _ _ (gtP hP [0, 1, 2] rfl) (gtD hD [0, 1, 2] (by decide) rfl) hS _ (lv_sub hl [1, 2, 3, 4, 5, 6, 0] rfl)
    intro n2
    induction n2 with
    | zero =>
      intro k V hi2 hP2 hd2 H locs hP hD hS ls hl
      refine lv_iload hx hb dL_isShut_46 (lv_at hl 6 rfl) ?_
      refine lv_iload_n hx hb dL_isShut_48 rfl (lv_at hl 2 rfl) ?_
      refine gN_ge (tgt := 129) hx hb dL_isShut_49 (by decide) (by omega) (by omega) (fun c10 => ?_) (fun c10 => absurd c10 (by omega))
      refine lv_iinc (lv' := [(5, .int (nI (i + 1))), (0, .ref ne), (1, .ref pe), (2, .int (nI n)), (3, .int (nI w)), (4, .ref wi), (6, .int (nI k))]) hx hb dL_isShut_129 hl (k := 5) rfl (n_inc _) (by decide) rfl (fun ls hl => ?_)
      refine lv_goto (tgt := 36) hx hb dL_isShut_132 (by decide) ?_
      exact ih1 (i + 1) V (by omega) hP2 (fun _ => (show k = n by omega) ▸ hd2.1) _ _ (gtP hP [0, 1, 2] rfl) (gtD hD [0, 1, 2] (by decide) rfl) hS _ (lv_sub hl [1, 2, 3, 4, 5, 0] rfl)
    | succ n2 ih2 =>
      intro k V hi2 hP2 hd2 H locs hP hD hS ls hl
      refine lv_iload hx hb dL_isShut_46 (lv_at hl 6 rfl) ?_
      refine lv_iload_n hx hb dL_isShut_48 rfl (lv_at hl 2 rfl) ?_
      refine gN_ge (tgt := 129) hx hb dL_isShut_49 (by decide) (by omega) (by omega) (fun c11 => absurd c11 (by omega)) (fun c11 => ?_)
      refine lv_iload_n hx hb dL_isShut_52 rfl (lv_at hl 3 rfl) ?_
      refine lv_iload hx hb dL_isShut_53 (lv_at hl 6 rfl) ?_
      have hwk : w / 2 ^ k < 2 ^ 31 := Nat.lt_of_le_of_lt (Nat.div_le_self _ _) (by omega)
      have hwk1 : w / 2 ^ k &&& 1 < 2 ^ 31 := Nat.lt_of_le_of_lt Nat.and_le_left hwk
      refine lv_ishr hx hb dL_isShut_55 ?_
      refine gTop (y := (nI (w / 2 ^ k))) (n_shr (by omega) (by omega)) ?_
      refine lv_iconst (v := nI 1) hx hb dL_isShut_56 (by decide) ?_
      refine lv_iand hx hb dL_isShut_57 ?_
      refine gTop (y := (nI ((w / 2 ^ k) &&& 1))) (n_and _ _) ?_
      refine lv_iconst (v := nI 1) hx hb dL_isShut_58 (by decide) ?_
      refine gN_ne (tgt := 65) hx hb dL_isShut_59 (by decide) (by omega) (by decide) (fun c12 => ?_) (fun c12 => ?_)
      · have htb : w.testBit k = false := by have h9 := c12; rw [n_bit1] at h9; cases hz9 : w.testBit k; (rfl); (rw [hz9] at h9; exact absurd rfl h9)
        refine lv_aload hx hb dL_isShut_65 (lv_at hl 4 rfl) ?_
        refine lv_aload_n hx hb dL_isShut_67 rfl (lv_at hl 1 rfl) ?_
        refine lv_iload hx hb dL_isShut_68 (lv_at hl 6 rfl) ?_
        refine gR_aald hx hb hK hP 1 1 rfl rfl (by omega) (by decide) (hpf k (by omega)) dL_isShut_70 ?_
        refine lv_iconst (v := nI 0) hx hb dL_isShut_71 (by decide) ?_
        obtain ⟨k13, hk13⟩ := va_pl_get (X := [(ne, .inl (G.2.2.1 0, 6, .inl (nA g))), (pe, .inl (G.2.2.1 1, 8, .inr (.inr (.inr (.inr f))))), (wi, .inl (G.2.2.1 0, 6, .inl (nA V)))]) (f := iF G D) (hpa k (by omega))
        have hltk13 := (hSB k (by omega)).1
        refine gN_iald (f := D (pa k)) hx hb hK hP k13 0 hk13 rfl (by decide) (by decide) dL_isShut_72 ?_
        refine gN_iald hx hb hK hP 2 0 rfl rfl (by omega) (by decide) dL_isShut_73 ?_
        refine lv_aload hx hb dL_isShut_74 (lv_at hl 4 rfl) ?_
        refine lv_aload_n hx hb dL_isShut_76 rfl (lv_at hl 1 rfl) ?_
        refine lv_iload hx hb dL_isShut_77 (lv_at hl 6 rfl) ?_
        refine gR_aald hx hb hK hP 1 1 rfl rfl (by omega) (by decide) (hpf k (by omega)) dL_isShut_79 ?_
        refine lv_iconst (v := nI 1) hx hb dL_isShut_80 (by decide) ?_
        obtain ⟨k14, hk14⟩ := va_pl_get (X := [(ne, .inl (G.2.2.1 0, 6, .inl (nA g))), (pe, .inl (G.2.2.1 1, 8, .inr (.inr (.inr (.inr f))))), (wi, .inl (G.2.2.1 0, 6, .inl (nA V)))]) (f := iF G D) (hpa k (by omega))
        have hltk14 := (hSB k (by omega)).2
        refine gN_iald (f := D (pa k)) hx hb hK hP k14 0 hk14 rfl (by decide) (by decide) dL_isShut_81 ?_
        refine gN_iald hx hb hK hP 2 0 rfl rfl (by omega) (by decide) dL_isShut_82 ?_
        refine lv_ior hx hb dL_isShut_83 ?_
        refine gTop (y := (nI ((V (D (pa k) 0)) ||| (V (D (pa k) 1))))) (n_or _ _) ?_
        refine lv_istore (lv' := [(7, .int (nI ((V (D (pa k) 0)) ||| (V (D (pa k) 1))))), (0, .ref ne), (1, .ref pe), (2, .int (nI n)), (3, .int (nI w)), (4, .ref wi), (5, .int (nI i)), (6, .int (nI k))]) hx hb dL_isShut_84 hl (by decide) rfl (fun ls hl => ?_)
        refine lv_iconst (v := nI 0) hx hb dL_isShut_86 (by decide) ?_
        refine lv_istore (lv' := [(8, .int (nI 0)), (7, .int (nI ((V (D (pa k) 0)) ||| (V (D (pa k) 1))))), (0, .ref ne), (1, .ref pe), (2, .int (nI n)), (3, .int (nI w)), (4, .ref wi), (5, .int (nI i)), (6, .int (nI k))]) hx hb dL_isShut_87 hl (by decide) rfl (fun ls hl => ?_)
        suffices L15 : ∀ (n3 j : Nat), j + n3 = 6 → ∀ (H : Heap) (locs : List Loc), va_P (gD G) vwCl ([(ne, .inl (G.2.2.1 0, 6, .inl (nA g))), (pe, .inl (G.2.2.1 1, 8, .inr (.inr (.inr (.inr f))))), (wi, .inl (G.2.2.1 0, 6, .inl (nA (mgN V (V (D (pa k) 0) ||| V (D (pa k) 1)) j))))] ++ (va_pl LP (iF G D))) H → va_D A ([(ne, .inl (G.2.2.1 0, 6, .inl (nA g))), (pe, .inl (G.2.2.1 1, 8, .inr (.inr (.inr (.inr f))))), (wi, .inl (G.2.2.1 0, 6, .inl (nA (mgN V (V (D (pa k) 0) ||| V (D (pa k) 1)) j))))] ++ (va_pl LP (iF G D))) → va_S A s.heap H locs → ∀ ls : Array Slot, lv_has ls 9 [(0, .ref ne), (1, .ref pe), (2, .int (nI n)), (3, .int (nI w)), (4, .ref wi), (5, .int (nI i)), (6, .int (nI k)), (7, .int (nI (V (D (pa k) 0) ||| V (D (pa k) 1)))), (8, .int (nI j))] → W P9 l e9 rm_c_isShut s m9 args below meth c9 H locs 1 6 Q (F0 m9 89 ls []) by
          exact L15 _ 0  (Nat.add_sub_cancel' (by omega))  _ _ (gtP hP [0, 1, 2] rfl) (gtD hD [0, 1, 2] (by decide) rfl) hS _ (lv_sub hl [2, 3, 4, 5, 6, 7, 8, 1, 0] rfl)
        intro n3
        induction n3 with
        | zero =>
          intro j hi3 H locs hP hD hS ls hl
          refine lv_iload hx hb dL_isShut_89 (lv_at hl 8 rfl) ?_
          refine lv_bipush (v := nI 6) hx hb dL_isShut_91 (by decide) ?_
          refine gN_ge (tgt := 123) hx hb dL_isShut_93 (by decide) (by omega) (by decide) (fun c16 => ?_) (fun c16 => absurd c16 (by omega))
          refine lv_iinc (lv' := [(6, .int (nI (k + 1))), (0, .ref ne), (1, .ref pe), (2, .int (nI n)), (3, .int (nI w)), (4, .ref wi), (5, .int (nI i)), (7, .int (nI (V (D (pa k) 0) ||| V (D (pa k) 1)))), (8, .int (nI j))]) hx hb dL_isShut_123 hl (k := 6) rfl (n_inc _) (by decide) rfl (fun ls hl => ?_)
          refine lv_goto (tgt := 46) hx hb dL_isShut_126 (by decide) ?_
          exact ih2 (k + 1) (mgN V (V (D (pa k) 0) ||| V (D (pa k) 1)) 6) (by omega) (PW_mg hP2 (by omega) htb (hSB k (by omega)).1 (hSB k (by omega)).2) (⟨(fun j hj hwj => if e9 : j = k then (by rw [e9]; exact dnE_new hP2 (hSB k (by omega)).1 (hSB k (by omega)).2) else dnE_mg (d := k) hP2 (hSB k (by omega)).1 (hSB k (by omega)).2 (fun j hj => hSB j (by omega)) hd2.1 j (by omega) hwj), (fun h9 => dnE_mg (d := n) hP2 (hSB k (by omega)).1 (hSB k (by omega)).2 hSB (hd2.2 h9))⟩) _ _ (gtP hP [0, 1, 2] (by rw [show j = 6 by omega] <;> rfl)) (gtD hD [0, 1, 2] (by decide) (by rw [show j = 6 by omega] <;> rfl)) hS _ (lv_sub hl [1, 2, 3, 4, 5, 6, 0] rfl)
        | succ n3 ih3 =>
          intro j hi3 H locs hP hD hS ls hl
          refine lv_iload hx hb dL_isShut_89 (lv_at hl 8 rfl) ?_
          refine lv_bipush (v := nI 6) hx hb dL_isShut_91 (by decide) ?_
          refine gN_ge (tgt := 123) hx hb dL_isShut_93 (by decide) (by omega) (by decide) (fun c17 => absurd c17 (by omega)) (fun c17 => ?_)
          have hVx : (V (D (pa k) 0) ||| V (D (pa k) 1)) < 64 := Nat.or_lt_two_pow (n := 6) (hP2.1 _ (hSB k (by omega)).1).1 (hP2.1 _ (hSB k (by omega)).2).1
          have hxj : (V (D (pa k) 0) ||| V (D (pa k) 1)) / 2 ^ j < 2 ^ 31 := Nat.lt_of_le_of_lt (Nat.div_le_self _ _) (by omega)
          have hxj1 : (V (D (pa k) 0) ||| V (D (pa k) 1)) / 2 ^ j &&& 1 < 2 ^ 31 := Nat.lt_of_le_of_lt Nat.and_le_left hxj
          refine lv_iload hx hb dL_isShut_96 (lv_at hl 7 rfl) ?_
          refine lv_iload hx hb dL_isShut_98 (lv_at hl 8 rfl) ?_
          refine lv_ishr hx hb dL_isShut_100 ?_
          refine gTop (y := (nI ((V (D (pa k) 0) ||| V (D (pa k) 1)) / 2 ^ j))) (n_shr (by omega) (by omega)) ?_
          refine lv_iconst (v := nI 1) hx hb dL_isShut_101 (by decide) ?_
          refine lv_iand hx hb dL_isShut_102 ?_
          refine gTop (y := (nI (((V (D (pa k) 0) ||| V (D (pa k) 1)) / 2 ^ j) &&& 1))) (n_and _ _) ?_
          refine lv_iconst (v := nI 1) hx hb dL_isShut_103 (by decide) ?_
          refine gN_ne (tgt := 117) hx hb dL_isShut_104 (by decide) (by omega) (by decide) (fun c18 => ?_) (fun c18 => ?_)
          · have hbt : ¬ (V (D (pa k) 0) ||| V (D (pa k) 1)).testBit j = true := by have h9 := c18; rw [n_bit1] at h9; intro hz9; rw [hz9] at h9; exact absurd rfl h9
            refine lv_iinc (lv' := [(8, .int (nI (j + 1))), (0, .ref ne), (1, .ref pe), (2, .int (nI n)), (3, .int (nI w)), (4, .ref wi), (5, .int (nI i)), (6, .int (nI k)), (7, .int (nI (V (D (pa k) 0) ||| V (D (pa k) 1))))]) hx hb dL_isShut_117 hl (k := 8) rfl (n_inc _) (by decide) rfl (fun ls hl => ?_)
            refine lv_goto (tgt := 89) hx hb dL_isShut_120 (by decide) ?_
            exact ih3 (j + 1)  (by omega)  _ _ (gtP hP [0, 1, 2] (by rw [← mgN_n hbt]; rfl)) (gtD hD [0, 1, 2] (by decide) (by rw [← mgN_n hbt]; rfl)) hS _ (lv_sub hl [1, 2, 3, 4, 5, 6, 7, 8, 0] rfl)
          · have hbt : (V (D (pa k) 0) ||| V (D (pa k) 1)).testBit j = true := by have h9 := c18; rw [n_bit1] at h9; exact tb_t (by rw [h9]; decide)
            refine lv_aload hx hb dL_isShut_107 (lv_at hl 4 rfl) ?_
            refine lv_iload hx hb dL_isShut_109 (lv_at hl 8 rfl) ?_
            refine lv_dup2_11 hx hb dL_isShut_111 rfl rfl ?_
            refine gN_iald hx hb hK hP 2 0 rfl rfl (by omega) (by decide) dL_isShut_112 ?_
            refine lv_iload hx hb dL_isShut_113 (lv_at hl 7 rfl) ?_
            refine lv_ior hx hb dL_isShut_115 ?_
            refine gTop (y := (nI (((mgN V (V (D (pa k) 0) ||| V (D (pa k) 1)) j) j) ||| (V (D (pa k) 0) ||| V (D (pa k) 1))))) (n_or _ _) ?_
            refine gN_iast hx hb hK hP hD hS 2 0 rfl rfl (by omega) (by decide) dL_isShut_116 (fun H locs hP hD hS => ?_)
            have hP : va_P (gD G) vwCl ([(ne, .inl (G.2.2.1 0, 6, .inl (nA g))), (pe, .inl (G.2.2.1 1, 8, .inr (.inr (.inr (.inr f))))), (wi, .inl (G.2.2.1 0, 6, .inl (nA (va_up (mgN V (V (D (pa k) 0) ||| V (D (pa k) 1)) j) j (((mgN V (V (D (pa k) 0) ||| V (D (pa k) 1)) j) j) ||| (V (D (pa k) 0) ||| V (D (pa k) 1)))))))] ++ (va_pl LP (iF G D))) H := hP
            have hD : va_D A ([(ne, .inl (G.2.2.1 0, 6, .inl (nA g))), (pe, .inl (G.2.2.1 1, 8, .inr (.inr (.inr (.inr f))))), (wi, .inl (G.2.2.1 0, 6, .inl (nA (va_up (mgN V (V (D (pa k) 0) ||| V (D (pa k) 1)) j) j (((mgN V (V (D (pa k) 0) ||| V (D (pa k) 1)) j) j) ||| (V (D (pa k) 0) ||| V (D (pa k) 1)))))))] ++ (va_pl LP (iF G D))) := hD
            refine lv_iinc (lv' := [(8, .int (nI (j + 1))), (0, .ref ne), (1, .ref pe), (2, .int (nI n)), (3, .int (nI w)), (4, .ref wi), (5, .int (nI i)), (6, .int (nI k)), (7, .int (nI (V (D (pa k) 0) ||| V (D (pa k) 1))))]) hx hb dL_isShut_117 hl (k := 8) rfl (n_inc _) (by decide) rfl (fun ls hl => ?_)
            refine lv_goto (tgt := 89) hx hb dL_isShut_120 (by decide) ?_
            exact ih3 (j + 1)  (by omega)  _ _ (gtP hP [0, 1, 2] (by rw [mgN_y hbt]; rfl)) (gtD hD [0, 1, 2] (by decide) (by rw [mgN_y hbt]; rfl)) hS _ (lv_sub hl [1, 2, 3, 4, 5, 6, 7, 8, 0] rfl)
      · have htb : w.testBit k = true := by have h9 := c12; rw [n_bit1] at h9; exact tb_t (by rw [h9]; decide)
        refine lv_goto (tgt := 123) hx hb dL_isShut_62 (by decide) ?_
        refine lv_iinc (lv' := [(6, .int (nI (k + 1))), (0, .ref ne), (1, .ref pe), (2, .int (nI n)), (3, .int (nI w)), (4, .ref wi), (5, .int (nI i))]) hx hb dL_isShut_123 hl (k := 6) rfl (n_inc _) (by decide) rfl (fun ls hl => ?_)
        refine lv_goto (tgt := 46) hx hb dL_isShut_126 (by decide) ?_
        exact ih2 (k + 1) V (by omega) hP2 (⟨(fun j hj hwj => (if e9 : j = k then absurd (e9 ▸ hwj) (by rw [htb]; decide) else hd2.1 j (by omega) hwj)), hd2.2⟩) _ _ (gtP hP [0, 1, 2] rfl) (gtD hD [0, 1, 2] (by decide) rfl) hS _ (lv_sub hl [1, 2, 3, 4, 5, 6, 0] rfl)
