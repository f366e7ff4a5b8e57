theorem cpy0 {α : Type} {f g : Nat → α} {n j : Nat} (h : j < n) : va_cpy f g 0 0 n j = f j := by
  unfold va_cpy
  rw [if_pos ⟨Nat.zero_le _, by omega⟩, Nat.zero_add, Nat.sub_zero]

theorem va_up_same {α : Type} (f : Nat → α) (i : Nat) (x : α) : va_up f i x i = x := by unfold va_up; rw [if_pos rfl]

def rm_c_add3_0 : Room := { frames := 3, cells := 1, slots := 10, locals := 57 }
set_option maxHeartbeats 4000000 in
set_option maxRecDepth 100000 in
/-- add(e, elementData, 0) of an empty list -/
theorem c_add3_0 (l : Launch) (G : gG) (h : Nat) (mo : Nat) (v : Nat) (Z : va_W) (El : Nat → Prop) (hZ : gEl G Z El) (hv : El v) (hmo : mo < 1000) : gMet (S := Nat × Nat × (Nat → Option Nat)) l G yJx4a65c_add_72be8 wsJx4a65c_add_72be8 rm_c_add3_0 [.ref h, .ref v, .ref (G.2.2.2 0), .int (nI 0)] ([(h, .inr (2, [.int (nI mo), .ref (G.2.2.2 0), .int (nI 0)]))] ++ Z) (fun w => (0 + 1 ≤ w.2.1 ∧ 10 ≤ w.2.1 ∧ w.2.1 ≤ 300) ∧ (∀ j, j < 0 → w.2.2 j = (fun _ => none) j) ∧ w.2.2 0 = some v) (fun _ => none) (fun w => ([(h, .inr (2, [.int (nI mo), .ref w.1, .int (nI 1)])), (w.1, .inl (G.2.2.1 4, w.2.1, .inr (.inr (.inr (.inr w.2.2)))))] ++ Z)) := by
  refine gOf (maxL := 4) (ret := none) (cc := cJx4a65c_add_72be8) (by decide) rfl (Nat.le_of_ble_eq_true rfl) ?_
  intro P9 e9 s m9 args below meth c9 A ls H locs Q hQ hx hb hml hr hown hts hlocks hin hK hP hD hS hA hE hl
  have hown : s.vm.findClass RJx4a65c = some m9.cls := hown
  have hl : lv_has ls 4 [(0, .ref h), (1, .ref v), (2, .ref (G.2.2.2 0)), (3, .int (nI 0))] := hl
  refine lv_iload_n hx hb dJx4a65c_add_72be8_0 rfl (lv_at hl 3 rfl) ?_
  refine lv_aload_n hx hb dJx4a65c_add_72be8_1 rfl (lv_at hl 2 rfl) ?_
  refine va_tlen (v := nI 0) hx hb hE.2.2.2.2.1 hS rfl dJx4a65c_add_72be8_2 ?_
  refine gN_ne (tgt := 11) hx hb dJx4a65c_add_72be8_3 (by decide) (by decide) (by decide) (fun c1 => absurd c1 (by omega)) (fun c1 => ?_)
  refine lv_aload_n hx hb dJx4a65c_add_72be8_6 rfl (lv_at hl 0 rfl) ?_
  refine gCVJ (ci := 2) (q0 := 0) (C := RJx4a65c) (As := []) (rest := []) hE (c_grow0_0 l G h mo) (cwV 0 hts gJx4a65c_add_72be8_Jx4a65c_grow_d5877 rfl rfl rfl (by decide +kernel) ⟨Nat.le_of_ble_eq_true rfl, Nat.le_of_ble_eq_true rfl⟩) ⟨hx, hb, hml, hown, hts⟩ hK hP hD hS hA (gJnQ (wr := []) [0] [] rfl rfl (by decide) (by decide) (by decide)) rfl rfl rfl hl rfl (Nat.le_of_ble_eq_true rfl) dJx4a65c_add_72be8_7 ⟨Nat.le_of_ble_eq_true rfl, Nat.le_of_ble_eq_true rfl⟩ (fun q2 H locs hu hP hD hS => ?_)
  have hP : va_P (gD G) vwCl ([(h, .inr (2, [.int (nI mo), .ref q2, .int (nI 0)])), (q2, .inl (G.2.2.1 4, 10, .inr (.inr (.inr (.inr (fun _ => none))))))] ++ Z) H := hP
  have hD : va_D A ([(h, .inr (2, [.int (nI mo), .ref q2, .int (nI 0)])), (q2, .inl (G.2.2.1 4, 10, .inr (.inr (.inr (.inr (fun _ => none))))))] ++ Z) := hD
  refine W.widen (k := 1) (n := 10) (Nat.le_of_ble_eq_true rfl) (Nat.le_of_ble_eq_true rfl) ?_
  refine W.eq (g2 := F0 m9 10 ls [.ref q2]) rfl ?_
  refine lv_astore_n (lv' := [(2, .ref q2), (0, .ref h), (1, .ref v), (3, .int (nI 0))]) hx hb dJx4a65c_add_72be8_10 rfl hl (by decide) rfl (fun ls hl => ?_)
  refine lv_aload_n hx hb dJx4a65c_add_72be8_11 rfl (lv_at hl 0 rfl) ?_
  refine lv_iload_n hx hb dJx4a65c_add_72be8_12 rfl (lv_at hl 3 rfl) ?_
  refine lv_aload_n hx hb dJx4a65c_add_72be8_13 rfl (lv_at hl 2 rfl) ?_
  refine gQ_ast (i := 0) hx hb hK hP hD hS 1 rfl (hZ s A H locs hE hK hS (gtail hP) v hv) (by omega) (by omega) dJx4a65c_add_72be8_14 (fun H locs hP hD hS => ?_)
  have hP : va_P (gD G) vwCl ([(h, .inr (2, [.int (nI mo), .ref q2, .int (nI 0)])), (q2, .inl (G.2.2.1 4, 10, .inr (.inr (.inr (.inr (va_up (fun _ => none) 0 (some v)))))))] ++ Z) H := hP
  have hD : va_D A ([(h, .inr (2, [.int (nI mo), .ref q2, .int (nI 0)])), (q2, .inl (G.2.2.1 4, 10, .inr (.inr (.inr (.inr (va_up (fun _ => none) 0 (some v)))))))] ++ Z) := hD
  refine lv_aload_n hx hb dJx4a65c_add_72be8_15 rfl (lv_at hl 1 rfl) ?_
  refine lv_iload_n hx hb dJx4a65c_add_72be8_16 rfl (lv_at hl 3 rfl) ?_
  refine lv_iconst (v := nI 1) hx hb dJx4a65c_add_72be8_17 (by decide) ?_
  refine lv_iadd hx hb dJx4a65c_add_72be8_18 ?_
  refine gTop (y := (nI (0 + 1))) (nI_add _ _) ?_
  refine gTop (y := nI 1) rfl ?_
  refine va_put (D := gD G) (ci := 2) (v := .int (nI 1)) (ty := .int) (C := RJx4a65c) (T := TJx4a65c) (N := 3) hx hb hts (by decide +kernel) tyJx4a65c tyJx4a65c_ok nmJx4a65c hown hK hP hD hS 0 rfl rfl 2 (by decide) (hts (.fieldLink RJx4a65c 48 "java/util/ArrayList" "size" "I") (by decide +kernel)) (fun _ h9 => h9) rfl (by decide +kernel) rfl rfl (Nat.le_of_ble_eq_true rfl) dJx4a65c_add_72be8_19 (fun H locs hP hD hS => ?_)
  have hP : va_P (gD G) vwCl ([(h, .inr (2, [.int (nI mo), .ref q2, .int (nI 1)])), (q2, .inl (G.2.2.1 4, 10, .inr (.inr (.inr (.inr (va_up (fun _ => none) 0 (some v)))))))] ++ Z) H := hP
  have hD : va_D A ([(h, .inr (2, [.int (nI mo), .ref q2, .int (nI 1)])), (q2, .inl (G.2.2.1 4, 10, .inr (.inr (.inr (.inr (va_up (fun _ => none) 0 (some v)))))))] ++ Z) := hD
  exact gVretT (hQ := hQ) hx hb hr hlocks hS (q2, 10, va_up (fun _ => none) 0 (some v)) ⟨(show 0 + 1 ≤ 10 ∧ 10 ≤ 10 ∧ 10 ≤ 300 by omega), (fun j hj => absurd hj (Nat.not_lt_zero j)), va_up_same (fun _ => none) 0 (some v)⟩ (by rfl) (gtP hP [0, 1] rfl) (gtD hD [0, 1] (by decide) rfl) (Nat.le_of_ble_eq_true rfl) (Nat.le_of_ble_eq_true rfl) dJx4a65c_add_72be8_22

def rm_c_add3_full : Room := { frames := 5, cells := 1, slots := 300, locals := 127 }
set_option maxHeartbeats 4000000 in
set_option maxRecDepth 100000 in
/-- c_add3_full -/
theorem c_add3_full (l : Launch) (G : gG) (h : Nat) (mo : Nat) (q : Nat) (n : Nat) (f : Nat → Option Nat) (v : Nat) (Z : va_W) (El : Nat → Prop) (hZ : gEl G Z El) (hv : El v) (hmo : mo < 1000) (hn : n ≤ 100) (hf : ∀ i, i < n → ∀ y, f i = some y → El y) (hn10 : 10 ≤ n) : gMet (S := Nat × Nat × (Nat → Option Nat)) l G yJx4a65c_add_72be8 wsJx4a65c_add_72be8 rm_c_add3_full [.ref h, .ref v, .ref q, .int (nI n)] ([(h, .inr (2, [.int (nI mo), .ref q, .int (nI n)])), (q, .inl (G.2.2.1 4, n, .inr (.inr (.inr (.inr f)))))] ++ Z) (fun w => (n + 1 ≤ w.2.1 ∧ 10 ≤ w.2.1 ∧ w.2.1 ≤ 300) ∧ (∀ j, j < n → w.2.2 j = f j) ∧ w.2.2 n = some v) (fun _ => none) (fun w => ([(h, .inr (2, [.int (nI mo), .ref w.1, .int (nI (n + 1))])), (w.1, .inl (G.2.2.1 4, w.2.1, .inr (.inr (.inr (.inr w.2.2)))))] ++ Z)) := by
  refine gOf (maxL := 4) (ret := none) (cc := cJx4a65c_add_72be8) (by decide) rfl (Nat.le_of_ble_eq_true rfl) ?_
  intro P9 e9 s m9 args below meth c9 A ls H locs Q hQ hx hb hml hr hown hts hlocks hin hK hP hD hS hA hE hl
  have hown : s.vm.findClass RJx4a65c = some m9.cls := hown
  have hl : lv_has ls 4 [(0, .ref h), (1, .ref v), (2, .ref q), (3, .int (nI n))] := hl
  refine lv_iload_n hx hb dJx4a65c_add_72be8_0 rfl (lv_at hl 3 rfl) ?_
  refine lv_aload_n hx hb dJx4a65c_add_72be8_1 rfl (lv_at hl 2 rfl) ?_
  refine va_alen (v := nI n) hx hb hK hP 1 4 rfl rfl rfl dJx4a65c_add_72be8_2 ?_
  refine gN_ne (tgt := 11) hx hb dJx4a65c_add_72be8_3 (by decide) (by omega) (by omega) (fun c1 => absurd c1 (by omega)) (fun c1 => ?_)
  refine lv_aload_n hx hb dJx4a65c_add_72be8_6 rfl (lv_at hl 0 rfl) ?_
  refine gCVJ (ci := 2) (q0 := 0) (C := RJx4a65c) (As := []) (rest := []) hE (c_grow0_n l G h mo q n f Z El hZ (by omega) (by omega) hf) (cwV 0 hts gJx4a65c_add_72be8_Jx4a65c_grow_d5877 rfl rfl rfl (by decide +kernel) ⟨Nat.le_of_ble_eq_true rfl, Nat.le_of_ble_eq_true rfl⟩) ⟨hx, hb, hml, hown, hts⟩ hK hP hD hS hA (gJnP (wr := []) [0, 1] [] rfl rfl (by decide) (by decide) (by decide)) rfl rfl rfl hl rfl (Nat.le_of_ble_eq_true rfl) dJx4a65c_add_72be8_7 ⟨Nat.le_of_ble_eq_true rfl, Nat.le_of_ble_eq_true rfl⟩ (fun q2 H locs hu hP hD hS => ?_)
  have hP : va_P (gD G) vwCl ([(h, .inr (2, [.int (nI mo), .ref q2, .int (nI n)])), (q2, .inl (G.2.2.1 4, n + max (n + 1 - n) (n / 2 ^ 1), .inr (.inr (.inr (.inr (va_cpy f (fun _ => none) 0 0 n))))))] ++ Z) H := hP
  have hD : va_D A ([(h, .inr (2, [.int (nI mo), .ref q2, .int (nI n)])), (q2, .inl (G.2.2.1 4, n + max (n + 1 - n) (n / 2 ^ 1), .inr (.inr (.inr (.inr (va_cpy f (fun _ => none) 0 0 n))))))] ++ Z) := hD
  refine W.widen (k := 1) (n := 300) (Nat.le_of_ble_eq_true rfl) (Nat.le_of_ble_eq_true rfl) ?_
  refine W.eq (g2 := F0 m9 10 ls [.ref q2]) rfl ?_
  have hmx : max (n + 1 - n) (n / 2 ^ 1) ≤ 101 := Nat.max_le.mpr ⟨by omega, Nat.le_trans (Nat.div_le_self _ _) (by omega)⟩
  have hmx1 : 1 ≤ max (n + 1 - n) (n / 2 ^ 1) := Nat.le_trans (by omega) (Nat.le_max_left _ _)
  refine lv_astore_n (lv' := [(2, .ref q2), (0, .ref h), (1, .ref v), (3, .int (nI n))]) hx hb dJx4a65c_add_72be8_10 rfl hl (by decide) rfl (fun ls hl => ?_)
  refine lv_aload_n hx hb dJx4a65c_add_72be8_11 rfl (lv_at hl 0 rfl) ?_
  refine lv_iload_n hx hb dJx4a65c_add_72be8_12 rfl (lv_at hl 3 rfl) ?_
  refine lv_aload_n hx hb dJx4a65c_add_72be8_13 rfl (lv_at hl 2 rfl) ?_
  refine gQ_ast (i := n) hx hb hK hP hD hS 1 rfl (hZ s A H locs hE hK hS (gtail hP) v hv) (by omega) (by omega) dJx4a65c_add_72be8_14 (fun H locs hP hD hS => ?_)
  have hP : va_P (gD G) vwCl ([(h, .inr (2, [.int (nI mo), .ref q2, .int (nI n)])), (q2, .inl (G.2.2.1 4, n + max (n + 1 - n) (n / 2 ^ 1), .inr (.inr (.inr (.inr (va_up (va_cpy f (fun _ => none) 0 0 n) n (some v)))))))] ++ Z) H := hP
  have hD : va_D A ([(h, .inr (2, [.int (nI mo), .ref q2, .int (nI n)])), (q2, .inl (G.2.2.1 4, n + max (n + 1 - n) (n / 2 ^ 1), .inr (.inr (.inr (.inr (va_up (va_cpy f (fun _ => none) 0 0 n) n (some v)))))))] ++ Z) := hD
  refine lv_aload_n hx hb dJx4a65c_add_72be8_15 rfl (lv_at hl 1 rfl) ?_
  refine lv_iload_n hx hb dJx4a65c_add_72be8_16 rfl (lv_at hl 3 rfl) ?_
  refine lv_iconst (v := nI 1) hx hb dJx4a65c_add_72be8_17 (by decide) ?_
  refine lv_iadd hx hb dJx4a65c_add_72be8_18 ?_
  refine gTop (y := (nI (n + 1))) (nI_add _ _) ?_
  refine va_put (D := gD G) (ci := 2) (v := .int (nI (n + 1))) (ty := .int) (C := RJx4a65c) (T := TJx4a65c) (N := 3) hx hb hts (by decide +kernel) tyJx4a65c tyJx4a65c_ok nmJx4a65c hown hK hP hD hS 0 rfl rfl 2 (by decide) (hts (.fieldLink RJx4a65c 48 "java/util/ArrayList" "size" "I") (by decide +kernel)) (fun _ h9 => h9) rfl (by decide +kernel) rfl rfl (Nat.le_of_ble_eq_true rfl) dJx4a65c_add_72be8_19 (fun H locs hP hD hS => ?_)
  have hP : va_P (gD G) vwCl ([(h, .inr (2, [.int (nI mo), .ref q2, .int (nI (n + 1))])), (q2, .inl (G.2.2.1 4, n + max (n + 1 - n) (n / 2 ^ 1), .inr (.inr (.inr (.inr (va_up (va_cpy f (fun _ => none) 0 0 n) n (some v)))))))] ++ Z) H := hP
  have hD : va_D A ([(h, .inr (2, [.int (nI mo), .ref q2, .int (nI (n + 1))])), (q2, .inl (G.2.2.1 4, n + max (n + 1 - n) (n / 2 ^ 1), .inr (.inr (.inr (.inr (va_up (va_cpy f (fun _ => none) 0 0 n) n (some v)))))))] ++ Z) := hD
  exact gVretT (hQ := hQ) hx hb hr hlocks hS (q2, n + max (n + 1 - n) (n / 2 ^ 1), va_up (va_cpy f (fun _ => none) 0 0 n) n (some v)) ⟨(show n + 1 ≤ n + max (n + 1 - n) (n / 2 ^ 1) ∧ 10 ≤ n + max (n + 1 - n) (n / 2 ^ 1) ∧ n + max (n + 1 - n) (n / 2 ^ 1) ≤ 300 by omega), (fun j hj => (va_up_ne _ _ (by omega)).trans (cpy0 hj)), va_up_same _ _ _⟩ (by rfl) (gtP hP [0, 1] rfl) (gtD hD [0, 1] (by decide) rfl) (Nat.le_of_ble_eq_true rfl) (Nat.le_of_ble_eq_true rfl) dJx4a65c_add_72be8_22

set_option maxHeartbeats 4000000 in
set_option maxRecDepth 100000 in
/-- c_add3_room -/
theorem c_add3_room (l : Launch) (G : gG) (h : Nat) (mo : Nat) (q : Nat) (n : Nat) (N : Nat) (f : Nat → Option Nat) (v : Nat) (Z : va_W) (El : Nat → Prop) (hZ : gEl G Z El) (hv : El v) (hmo : mo < 1000) (hn : n ≤ 100) (hN : N ≤ 300) (hN10 : 10 ≤ N) (hnN : n ≤ N) (hf : ∀ i, i < n → ∀ y, f i = some y → El y) (hlt : n < N) : gMet (S := Nat × Nat × (Nat → Option Nat)) l G yJx4a65c_add_72be8 wsJx4a65c_add_72be8 rm_c_add3_full [.ref h, .ref v, .ref q, .int (nI n)] ([(h, .inr (2, [.int (nI mo), .ref q, .int (nI n)])), (q, .inl (G.2.2.1 4, N, .inr (.inr (.inr (.inr f)))))] ++ Z) (fun w => (n + 1 ≤ w.2.1 ∧ 10 ≤ w.2.1 ∧ w.2.1 ≤ 300) ∧ (∀ j, j < n → w.2.2 j = f j) ∧ w.2.2 n = some v) (fun _ => none) (fun w => ([(h, .inr (2, [.int (nI mo), .ref w.1, .int (nI (n + 1))])), (w.1, .inl (G.2.2.1 4, w.2.1, .inr (.inr (.inr (.inr w.2.2)))))] ++ Z)) := by
  refine gOf (maxL := 4) (ret := none) (cc := cJx4a65c_add_72be8) (by decide) rfl (Nat.le_of_ble_eq_true rfl) ?_
  intro P9 e9 s m9 args below meth c9 A ls H locs Q hQ hx hb hml hr hown hts hlocks hin hK hP hD hS hA hE hl
  have hown : s.vm.findClass RJx4a65c = some m9.cls := hown
  have hl : lv_has ls 4 [(0, .ref h), (1, .ref v), (2, .ref q), (3, .int (nI n))] := hl
  refine lv_iload_n hx hb dJx4a65c_add_72be8_0 rfl (lv_at hl 3 rfl) ?_
  refine lv_aload_n hx hb dJx4a65c_add_72be8_1 rfl (lv_at hl 2 rfl) ?_
  refine va_alen (v := nI N) hx hb hK hP 1 4 rfl rfl rfl dJx4a65c_add_72be8_2 ?_
  refine gN_ne (tgt := 11) hx hb dJx4a65c_add_72be8_3 (by decide) (by omega) (by omega) (fun c1 => ?_) (fun c1 => absurd c1 (by omega))
  refine lv_aload_n hx hb dJx4a65c_add_72be8_11 rfl (lv_at hl 2 rfl) ?_
  refine lv_iload_n hx hb dJx4a65c_add_72be8_12 rfl (lv_at hl 3 rfl) ?_
  refine lv_aload_n hx hb dJx4a65c_add_72be8_13 rfl (lv_at hl 1 rfl) ?_
  refine gQ_ast (i := n) hx hb hK hP hD hS 1 rfl (hZ s A H locs hE hK hS (gtail hP) v hv) (by omega) (by omega) dJx4a65c_add_72be8_14 (fun H locs hP hD hS => ?_)
  have hP : va_P (gD G) vwCl ([(h, .inr (2, [.int (nI mo), .ref q, .int (nI n)])), (q, .inl (G.2.2.1 4, N, .inr (.inr (.inr (.inr (va_up f n (some v)))))))] ++ Z) H := hP
  have hD : va_D A ([(h, .inr (2, [.int (nI mo), .ref q, .int (nI n)])), (q, .inl (G.2.2.1 4, N, .inr (.inr (.inr (.inr (va_up f n (some v)))))))] ++ Z) := hD
  refine lv_aload_n hx hb dJx4a65c_add_72be8_15 rfl (lv_at hl 0 rfl) ?_
  refine lv_iload_n hx hb dJx4a65c_add_72be8_16 rfl (lv_at hl 3 rfl) ?_
  refine lv_iconst (v := nI 1) hx hb dJx4a65c_add_72be8_17 (by decide) ?_
  refine lv_iadd hx hb dJx4a65c_add_72be8_18 ?_
  refine gTop (y := (nI (n + 1))) (nI_add _ _) ?_
  refine va_put (D := gD G) (ci := 2) (v := .int (nI (n + 1))) (ty := .int) (C := RJx4a65c) (T := TJx4a65c) (N := 3) hx hb hts (by decide +kernel) tyJx4a65c tyJx4a65c_ok nmJx4a65c hown hK hP hD hS 0 rfl rfl 2 (by decide) (hts (.fieldLink RJx4a65c 48 "java/util/ArrayList" "size" "I") (by decide +kernel)) (fun _ h9 => h9) rfl (by decide +kernel) rfl rfl (Nat.le_of_ble_eq_true rfl) dJx4a65c_add_72be8_19 (fun H locs hP hD hS => ?_)
  have hP : va_P (gD G) vwCl ([(h, .inr (2, [.int (nI mo), .ref q, .int (nI (n + 1))])), (q, .inl (G.2.2.1 4, N, .inr (.inr (.inr (.inr (va_up f n (some v)))))))] ++ Z) H := hP
  have hD : va_D A ([(h, .inr (2, [.int (nI mo), .ref q, .int (nI (n + 1))])), (q, .inl (G.2.2.1 4, N, .inr (.inr (.inr (.inr (va_up f n (some v)))))))] ++ Z) := hD
  exact gVretT (hQ := hQ) hx hb hr hlocks hS (q, N, va_up f n (some v)) ⟨(show n + 1 ≤ N ∧ 10 ≤ N ∧ N ≤ 300 by omega), (fun j hj => va_up_ne _ _ (by omega)), va_up_same _ _ _⟩ (by rfl) (gtP hP [0, 1] rfl) (gtD hD [0, 1] (by decide) rfl) (Nat.le_of_ble_eq_true rfl) (Nat.le_of_ble_eq_true rfl) dJx4a65c_add_72be8_22

theorem c_add3 (l : Launch) (G : gG) (h : Nat) (mo : Nat) (q : Nat) (n : Nat) (N : Nat) (f : Nat → Option Nat) (v : Nat) (Z : va_W) (El : Nat → Prop) (hZ : gEl G Z El) (hv : El v) (hmo : mo < 1000) (hn : n ≤ 100) (hN : N ≤ 300) (hN10 : 10 ≤ N) (hnN : n ≤ N) (hf : ∀ i, i < n → ∀ y, f i = some y → El y) : gMet (S := Nat × Nat × (Nat → Option Nat)) l G yJx4a65c_add_72be8 wsJx4a65c_add_72be8 rm_c_add3_full [.ref h, .ref v, .ref q, .int (nI n)] ([(h, .inr (2, [.int (nI mo), .ref q, .int (nI n)])), (q, .inl (G.2.2.1 4, N, .inr (.inr (.inr (.inr f)))))] ++ Z) (fun w => (n + 1 ≤ w.2.1 ∧ 10 ≤ w.2.1 ∧ w.2.1 ≤ 300) ∧ (∀ j, j < n → w.2.2 j = f j) ∧ w.2.2 n = some v) (fun _ => none) (fun w => ([(h, .inr (2, [.int (nI mo), .ref w.1, .int (nI (n + 1))])), (w.1, .inl (G.2.2.1 4, w.2.1, .inr (.inr (.inr (.inr w.2.2)))))] ++ Z)) := by
  by_cases h9 : n = N
  · subst h9
    exact c_add3_full l G h mo q n f v Z El hZ hv hmo hn hf hN10
  · exact c_add3_room l G h mo q n N f v Z El hZ hv hmo hn hN hN10 hnN hf (by omega)

def rm_c_L_add0 : Room := { frames := 4, cells := 1, slots := 10, locals := 80 }
set_option maxHeartbeats 4000000 in
set_option maxRecDepth 100000 in
/-- add(e) of an empty list -/
theorem c_L_add0 (l : Launch) (G : gG) (h : Nat) (mo : Nat) (v : Nat) (Z : va_W) (El : Nat → Prop) (hZ : gEl G Z El) (hv : El v) (hmo : mo < 900) : gMet (S := Nat × Nat × (Nat → Option Nat)) l G yJx4a65c_add_9ea2d wsJx4a65c_add_9ea2d rm_c_L_add0 [.ref h, .ref v] ([(h, .inr (2, [.int (nI mo), .ref (G.2.2.2 0), .int (nI 0)]))] ++ Z) (fun w => (0 + 1 ≤ w.2.1 ∧ 10 ≤ w.2.1 ∧ w.2.1 ≤ 300) ∧ (∀ j, j < 0 → w.2.2 j = (fun _ => none) j) ∧ w.2.2 0 = some v) (fun _ => some (.int (nI 1))) (fun w => ([(h, .inr (2, [.int (nI (mo + 1)), .ref w.1, .int (nI 1)])), (w.1, .inl (G.2.2.1 4, w.2.1, .inr (.inr (.inr (.inr w.2.2)))))] ++ Z)) := by
  refine gOf (maxL := 2) (ret := (some .boolean)) (cc := cJx4a65c_add_9ea2d) (by decide) rfl (Nat.le_of_ble_eq_true rfl) ?_
  intro P9 e9 s m9 args below meth c9 A ls H locs Q hQ hx hb hml hr hown hts hlocks hin hK hP hD hS hA hE hl
  have hown : s.vm.findClass RJx4a65c = some m9.cls := hown
  have hl : lv_has ls 2 [(0, .ref h), (1, .ref v)] := hl
  refine lv_aload_n hx hb dJx4a65c_add_9ea2d_0 rfl (lv_at hl 0 rfl) ?_
  refine lv_dup hx hb dJx4a65c_add_9ea2d_1 rfl ?_
  refine va_get (D := gD G) (ci := 2) (v := .int (nI mo)) (C := RJx4a65c) (T := TJx4a65c) (N := 3) hx hb hts (by decide +kernel) hown hK hP 0 rfl rfl 0 (by decide) (hts (.fieldLink RJx4a65c 63 "java/util/ArrayList" "modCount" "I") (by decide +kernel)) (u_same (hts (.sameField "java/util/ArrayList" "java/util/AbstractList" "modCount" "I") (by decide +kernel))) rfl dJx4a65c_add_9ea2d_2 ?_
  refine lv_iconst (v := nI 1) hx hb dJx4a65c_add_9ea2d_5 (by decide) ?_
  refine lv_iadd hx hb dJx4a65c_add_9ea2d_6 ?_
  refine gTop (y := (nI (mo + 1))) (nI_add _ _) ?_
  refine va_put (D := gD G) (ci := 2) (v := .int (nI (mo + 1))) (ty := .int) (C := RJx4a65c) (T := TJx4a65c) (N := 3) hx hb hts (by decide +kernel) tyJx4a65c tyJx4a65c_ok nmJx4a65c hown hK hP hD hS 0 rfl rfl 0 (by decide) (hts (.fieldLink RJx4a65c 63 "java/util/ArrayList" "modCount" "I") (by decide +kernel)) (u_same (hts (.sameField "java/util/ArrayList" "java/util/AbstractList" "modCount" "I") (by decide +kernel))) rfl (by decide +kernel) rfl rfl (Nat.le_of_ble_eq_true rfl) dJx4a65c_add_9ea2d_7 (fun H locs hP hD hS => ?_)
  have hP : va_P (gD G) vwCl ([(h, .inr (2, [.int (nI (mo + 1)), .ref (G.2.2.2 0), .int (nI 0)]))] ++ Z) H := hP
  have hD : va_D A ([(h, .inr (2, [.int (nI (mo + 1)), .ref (G.2.2.2 0), .int (nI 0)]))] ++ Z) := hD
  refine lv_aload_n hx hb dJx4a65c_add_9ea2d_10 rfl (lv_at hl 0 rfl) ?_
  refine lv_aload_n hx hb dJx4a65c_add_9ea2d_11 rfl (lv_at hl 1 rfl) ?_
  refine lv_aload_n hx hb dJx4a65c_add_9ea2d_12 rfl (lv_at hl 0 rfl) ?_
  refine va_get (D := gD G) (ci := 2) (v := .ref (G.2.2.2 0)) (C := RJx4a65c) (T := TJx4a65c) (N := 3) hx hb hts (by decide +kernel) hown hK hP 0 rfl rfl 1 (by decide) (hts (.fieldLink RJx4a65c 9 "java/util/ArrayList" "elementData" "[Ljava/lang/Object;") (by decide +kernel)) (fun _ h9 => h9) rfl dJx4a65c_add_9ea2d_13 ?_
  refine lv_aload_n hx hb dJx4a65c_add_9ea2d_16 rfl (lv_at hl 0 rfl) ?_
  refine va_get (D := gD G) (ci := 2) (v := .int (nI 0)) (C := RJx4a65c) (T := TJx4a65c) (N := 3) hx hb hts (by decide +kernel) hown hK hP 0 rfl rfl 2 (by decide) (hts (.fieldLink RJx4a65c 48 "java/util/ArrayList" "size" "I") (by decide +kernel)) (fun _ h9 => h9) rfl dJx4a65c_add_9ea2d_17 ?_
  refine gCVJ (ci := 2) (q0 := 0) (C := RJx4a65c) (As := [.ref v, .ref (G.2.2.2 0), .int (nI 0)]) (rest := []) hE (c_add3_0 l G h (mo + 1) v Z El hZ hv (by omega)) (cwV 3 hts gJx4a65c_add_9ea2d_Jx4a65c_add_72be8 rfl rfl rfl (by decide +kernel) ⟨Nat.le_of_ble_eq_true rfl, Nat.le_of_ble_eq_true rfl⟩) ⟨hx, hb, hml, hown, hts⟩ hK hP hD hS hA (gJnP (wr := []) [0] [] rfl rfl (by decide) (by decide) (by decide)) rfl rfl rfl hl rfl (Nat.le_of_ble_eq_true rfl) dJx4a65c_add_9ea2d_20 ⟨Nat.le_of_ble_eq_true rfl, Nat.le_of_ble_eq_true rfl⟩ (fun u9 H locs hu hP hD hS => ?_)
  obtain ⟨q1, N1, f1⟩ := u9
  have ha1 := hu
  have hP : va_P (gD G) vwCl ([(h, .inr (2, [.int (nI (mo + 1)), .ref q1, .int (nI 1)])), (q1, .inl (G.2.2.1 4, N1, .inr (.inr (.inr (.inr f1)))))] ++ Z) H := hP
  have hD : va_D A ([(h, .inr (2, [.int (nI (mo + 1)), .ref q1, .int (nI 1)])), (q1, .inl (G.2.2.1 4, N1, .inr (.inr (.inr (.inr f1)))))] ++ Z) := hD
  refine W.widen (k := 1) (n := 10) (Nat.le_of_ble_eq_true rfl) (Nat.le_of_ble_eq_true rfl) ?_
  refine W.eq (g2 := F0 m9 23 ls []) rfl ?_
  refine lv_iconst (v := nI 1) hx hb dJx4a65c_add_9ea2d_23 (by decide) ?_
  exact gZretT (hQ := hQ) hx hb hr hlocks (by first | exact Or.inl rfl | exact Or.inr rfl) hS (q1, N1, f1) ha1 (by rfl) (gtP hP [0, 1] rfl) (gtD hD [0, 1] (by decide) rfl) (Nat.le_of_ble_eq_true rfl) (Nat.le_of_ble_eq_true rfl) dJx4a65c_add_9ea2d_24

def rm_c_L_add : Room := { frames := 6, cells := 1, slots := 300, locals := 150 }
set_option maxHeartbeats 4000000 in
set_option maxRecDepth 100000 in
/-- add(e) -/
theorem c_L_add (l : Launch) (G : gG) (h : Nat) (mo : Nat) (q : Nat) (n : Nat) (N : Nat) (f : Nat → Option Nat) (v : Nat) (Z : va_W) (El : Nat → Prop) (hZ : gEl G Z El) (hv : El v) (hmo : mo < 900) (hn : n ≤ 100) (hN : N ≤ 300) (hN10 : 10 ≤ N) (hnN : n ≤ N) (hf : ∀ i, i < n → ∀ y, f i = some y → El y) : gMet (S := Nat × Nat × (Nat → Option Nat)) l G yJx4a65c_add_9ea2d wsJx4a65c_add_9ea2d rm_c_L_add [.ref h, .ref v] ([(h, .inr (2, [.int (nI mo), .ref q, .int (nI n)])), (q, .inl (G.2.2.1 4, N, .inr (.inr (.inr (.inr f)))))] ++ Z) (fun w => (n + 1 ≤ w.2.1 ∧ 10 ≤ w.2.1 ∧ w.2.1 ≤ 300) ∧ (∀ j, j < n → w.2.2 j = f j) ∧ w.2.2 n = some v) (fun _ => some (.int (nI 1))) (fun w => ([(h, .inr (2, [.int (nI (mo + 1)), .ref w.1, .int (nI (n + 1))])), (w.1, .inl (G.2.2.1 4, w.2.1, .inr (.inr (.inr (.inr w.2.2)))))] ++ Z)) := by
  refine gOf (maxL := 2) (ret := (some .boolean)) (cc := cJx4a65c_add_9ea2d) (by decide) rfl (Nat.le_of_ble_eq_true rfl) ?_
  intro P9 e9 s m9 args below meth c9 A ls H locs Q hQ hx hb hml hr hown hts hlocks hin hK hP hD hS hA hE hl
  have hown : s.vm.findClass RJx4a65c = some m9.cls := hown
  have hl : lv_has ls 2 [(0, .ref h), (1, .ref v)] := hl
  refine lv_aload_n hx hb dJx4a65c_add_9ea2d_0 rfl (lv_at hl 0 rfl) ?_
  refine lv_dup hx hb dJx4a65c_add_9ea2d_1 rfl ?_
  refine va_get (D := gD G) (ci := 2) (v := .int (nI mo)) (C := RJx4a65c) (T := TJx4a65c) (N := 3) hx hb hts (by decide +kernel) hown hK hP 0 rfl rfl 0 (by decide) (hts (.fieldLink RJx4a65c 63 "java/util/ArrayList" "modCount" "I") (by decide +kernel)) (u_same (hts (.sameField "java/util/ArrayList" "java/util/AbstractList" "modCount" "I") (by decide +kernel))) rfl dJx4a65c_add_9ea2d_2 ?_
  refine lv_iconst (v := nI 1) hx hb dJx4a65c_add_9ea2d_5 (by decide) ?_
  refine lv_iadd hx hb dJx4a65c_add_9ea2d_6 ?_
  refine gTop (y := (nI (mo + 1))) (nI_add _ _) ?_
  refine va_put (D := gD G) (ci := 2) (v := .int (nI (mo + 1))) (ty := .int) (C := RJx4a65c) (T := TJx4a65c) (N := 3) hx hb hts (by decide +kernel) tyJx4a65c tyJx4a65c_ok nmJx4a65c hown hK hP hD hS 0 rfl rfl 0 (by decide) (hts (.fieldLink RJx4a65c 63 "java/util/ArrayList" "modCount" "I") (by decide +kernel)) (u_same (hts (.sameField "java/util/ArrayList" "java/util/AbstractList" "modCount" "I") (by decide +kernel))) rfl (by decide +kernel) rfl rfl (Nat.le_of_ble_eq_true rfl) dJx4a65c_add_9ea2d_7 (fun H locs hP hD hS => ?_)
  have hP : va_P (gD G) vwCl ([(h, .inr (2, [.int (nI (mo + 1)), .ref q, .int (nI n)])), (q, .inl (G.2.2.1 4, N, .inr (.inr (.inr (.inr f)))))] ++ Z) H := hP
  have hD : va_D A ([(h, .inr (2, [.int (nI (mo + 1)), .ref q, .int (nI n)])), (q, .inl (G.2.2.1 4, N, .inr (.inr (.inr (.inr f)))))] ++ Z) := hD
  refine lv_aload_n hx hb dJx4a65c_add_9ea2d_10 rfl (lv_at hl 0 rfl) ?_
  refine lv_aload_n hx hb dJx4a65c_add_9ea2d_11 rfl (lv_at hl 1 rfl) ?_
  refine lv_aload_n hx hb dJx4a65c_add_9ea2d_12 rfl (lv_at hl 0 rfl) ?_
  refine va_get (D := gD G) (ci := 2) (v := .ref q) (C := RJx4a65c) (T := TJx4a65c) (N := 3) hx hb hts (by decide +kernel) hown hK hP 0 rfl rfl 1 (by decide) (hts (.fieldLink RJx4a65c 9 "java/util/ArrayList" "elementData" "[Ljava/lang/Object;") (by decide +kernel)) (fun _ h9 => h9) rfl dJx4a65c_add_9ea2d_13 ?_
  refine lv_aload_n hx hb dJx4a65c_add_9ea2d_16 rfl (lv_at hl 0 rfl) ?_
  refine va_get (D := gD G) (ci := 2) (v := .int (nI n)) (C := RJx4a65c) (T := TJx4a65c) (N := 3) hx hb hts (by decide +kernel) hown hK hP 0 rfl rfl 2 (by decide) (hts (.fieldLink RJx4a65c 48 "java/util/ArrayList" "size" "I") (by decide +kernel)) (fun _ h9 => h9) rfl dJx4a65c_add_9ea2d_17 ?_
  refine gCVJ (ci := 2) (q0 := 0) (C := RJx4a65c) (As := [.ref v, .ref q, .int (nI n)]) (rest := []) hE (c_add3 l G h (mo + 1) q n N f v Z El hZ hv (by omega) (by omega) (by omega) (by omega) (by omega) hf) (cwV 3 hts gJx4a65c_add_9ea2d_Jx4a65c_add_72be8 rfl rfl rfl (by decide +kernel) ⟨Nat.le_of_ble_eq_true rfl, Nat.le_of_ble_eq_true rfl⟩) ⟨hx, hb, hml, hown, hts⟩ hK hP hD hS hA (gJnP (wr := []) [0, 1] [] rfl rfl (by decide) (by decide) (by decide)) rfl rfl rfl hl rfl (Nat.le_of_ble_eq_true rfl) dJx4a65c_add_9ea2d_20 ⟨Nat.le_of_ble_eq_true rfl, Nat.le_of_ble_eq_true rfl⟩ (fun u9 H locs hu hP hD hS => ?_)
  obtain ⟨q1, N1, f1⟩ := u9
  have ha1 := hu
  have hP : va_P (gD G) vwCl ([(h, .inr (2, [.int (nI (mo + 1)), .ref q1, .int (nI (n + 1))])), (q1, .inl (G.2.2.1 4, N1, .inr (.inr (.inr (.inr f1)))))] ++ Z) H := hP
  have hD : va_D A ([(h, .inr (2, [.int (nI (mo + 1)), .ref q1, .int (nI (n + 1))])), (q1, .inl (G.2.2.1 4, N1, .inr (.inr (.inr (.inr f1)))))] ++ Z) := hD
  refine W.widen (k := 1) (n := 300) (Nat.le_of_ble_eq_true rfl) (Nat.le_of_ble_eq_true rfl) ?_
  refine W.eq (g2 := F0 m9 23 ls []) rfl ?_
  refine lv_iconst (v := nI 1) hx hb dJx4a65c_add_9ea2d_23 (by decide) ?_
  exact gZretT (hQ := hQ) hx hb hr hlocks (by first | exact Or.inl rfl | exact Or.inr rfl) hS (q1, N1, f1) ha1 (by rfl) (gtP hP [0, 1] rfl) (gtD hD [0, 1] (by decide) rfl) (Nat.le_of_ble_eq_true rfl) (Nat.le_of_ble_eq_true rfl) dJx4a65c_add_9ea2d_24

def rm_c_L_size : Room := { frames := 0, cells := 0, slots := 0, locals := 0 }
set_option maxHeartbeats 4000000 in
set_option maxRecDepth 100000 in
/-- size() -/
theorem c_L_size (l : Launch) (G : gG) (h : Nat) (mo : Nat) (ed : Value) (n : Nat)  : gMet (S := Unit) l G yJx4a65c_size_8abf5 wsJx4a65c_size_8abf5 rm_c_L_size [.ref h] [(h, .inr (2, [.int (nI mo), ed, .int (nI n)]))] (fun _ => True) (fun _ => some (.int (nI n))) (fun _ => [(h, .inr (2, [.int (nI mo), ed, .int (nI n)]))]) := by
  refine gOf (maxL := 1) (ret := (some .int)) (cc := cJx4a65c_size_8abf5) (by decide) rfl (Nat.le_of_ble_eq_true rfl) ?_
  intro P9 e9 s m9 args below meth c9 A ls H locs Q hQ hx hb hml hr hown hts hlocks hin hK hP hD hS hA hE hl
  have hown : s.vm.findClass RJx4a65c = some m9.cls := hown
  have hl : lv_has ls 1 [(0, .ref h)] := hl
  refine lv_aload_n hx hb dJx4a65c_size_8abf5_0 rfl (lv_at hl 0 rfl) ?_
  refine va_get (D := gD G) (ci := 2) (v := .int (nI n)) (C := RJx4a65c) (T := TJx4a65c) (N := 3) hx hb hts (by decide +kernel) hown hK hP 0 rfl rfl 2 (by decide) (hts (.fieldLink RJx4a65c 48 "java/util/ArrayList" "size" "I") (by decide +kernel)) (fun _ h9 => h9) rfl dJx4a65c_size_8abf5_1 ?_
  exact gIret (hQ := hQ) hx hb hr hlocks hP hD hS () trivial (by rfl) [0] (by decide) (by rfl) (Nat.le_of_ble_eq_true rfl) (Nat.le_of_ble_eq_true rfl) dJx4a65c_size_8abf5_4

def rm_c_chk3 : Room := { frames := 0, cells := 0, slots := 0, locals := 0 }
set_option maxHeartbeats 4000000 in
set_option maxRecDepth 100000 in
/-- checkIndex(i, n, null) -/
theorem c_chk3 (l : Launch) (G : gG) (i : Nat) (n : Nat) (hi : i < n) (hn : n < 2 ^ 31) : gMet (S := Unit) l G yJ3_checkIndex_8e157 wsJ3_checkIndex_8e157 rm_c_chk3 [.int (nI i), .int (nI n), .null] [] (fun _ => True) (fun _ => some (.int (nI i))) (fun _ => []) := by
  refine gOf (maxL := 3) (ret := (some .int)) (cc := cJ3_checkIndex_8e157) (by decide) rfl (Nat.le_of_ble_eq_true rfl) ?_
  intro P9 e9 s m9 args below meth c9 A ls H locs Q hQ hx hb hml hr hown hts hlocks hin hK hP hD hS hA hE hl
  have hown : s.vm.findClass RJ3 = some m9.cls := hown
  have hl : lv_has ls 3 [(0, .int (nI i)), (1, .int (nI n)), (2, .null)] := hl
  refine lv_iload_n hx hb dJ3_checkIndex_8e157_0 rfl (lv_at hl 0 rfl) ?_
  refine lv_if_lt (tgt := 9) hx hb dJ3_checkIndex_8e157_1 (by decide) (fun h9 => absurd h9 (nI_pos (by omega))) (fun _ => ?_)
  refine lv_iload_n hx hb dJ3_checkIndex_8e157_4 rfl (lv_at hl 0 rfl) ?_
  refine lv_iload_n hx hb dJ3_checkIndex_8e157_5 rfl (lv_at hl 1 rfl) ?_
  refine gN_lt (tgt := 16) hx hb dJ3_checkIndex_8e157_6 (by decide) (by omega) (by omega) (fun c1 => ?_) (fun c1 => absurd c1 (by omega))
  refine lv_iload_n hx hb dJ3_checkIndex_8e157_16 rfl (lv_at hl 0 rfl) ?_
  exact gIret (hQ := hQ) hx hb hr hlocks hP hD hS () trivial (by rfl) [] (by decide) (by rfl) (Nat.le_of_ble_eq_true rfl) (Nat.le_of_ble_eq_true rfl) dJ3_checkIndex_8e157_17

def rm_c_chk2 : Room := { frames := 1, cells := 0, slots := 0, locals := 22 }
set_option maxHeartbeats 4000000 in
set_option maxRecDepth 100000 in
/-- checkIndex(i, n) -/
theorem c_chk2 (l : Launch) (G : gG) (i : Nat) (n : Nat) (hi : i < n) (hn : n < 2 ^ 31) : gMet (S := Unit) l G yJ15_checkIndex_7cf53 wsJ15_checkIndex_7cf53 rm_c_chk2 [.int (nI i), .int (nI n)] [] (fun _ => True) (fun _ => some (.int (nI i))) (fun _ => []) := by
  refine gOf (maxL := 2) (ret := (some .int)) (cc := cJ15_checkIndex_7cf53) (by decide) rfl (Nat.le_of_ble_eq_true rfl) ?_
  intro P9 e9 s m9 args below meth c9 A ls H locs Q hQ hx hb hml hr hown hts hlocks hin hK hP hD hS hA hE hl
  have hown : s.vm.findClass RJ15 = some m9.cls := hown
  have hl : lv_has ls 2 [(0, .int (nI i)), (1, .int (nI n))] := hl
  refine lv_iload_n hx hb dJ15_checkIndex_7cf53_0 rfl (lv_at hl 0 rfl) ?_
  refine lv_iload_n hx hb dJ15_checkIndex_7cf53_1 rfl (lv_at hl 1 rfl) ?_
  refine lv_null hx hb dJ15_checkIndex_7cf53_2 ?_
  refine gCS (As := [.int (nI i), .int (nI n), .null]) (rest := []) (wr := []) hE (c_chk3 l G i n (by omega) (by omega)) (va_cwS 3 hts gJ15_checkIndex_7cf53_J3_checkIndex_8e157 rfl rfl rfl (by decide +kernel) ⟨Nat.le_of_ble_eq_true rfl, Nat.le_of_ble_eq_true rfl⟩) ⟨hx, hb, hml, hown, hts⟩ hK hP hD hS hA [] [] rfl rfl (by decide) (by decide) (by decide) rfl hl rfl (Nat.le_of_ble_eq_true rfl) dJ15_checkIndex_7cf53_3 ⟨Nat.le_of_ble_eq_true rfl, Nat.le_of_ble_eq_true rfl⟩ (fun u9 H locs hu hP hD hS => ?_)
  have hP : va_P (gD G) vwCl [] H := hP
  have hD : va_D A [] := hD
  refine W.eq (g2 := F0 m9 6 ls [.int (nI i)]) rfl ?_
  exact gIret (hQ := hQ) hx hb hr hlocks hP hD hS () trivial (by rfl) [] (by decide) (by rfl) (Nat.le_of_ble_eq_true rfl) (Nat.le_of_ble_eq_true rfl) dJ15_checkIndex_7cf53_6

def rm_c_L_ed : Room := { frames := 0, cells := 0, slots := 0, locals := 0 }
set_option maxHeartbeats 4000000 in
set_option maxRecDepth 100000 in
/-- c_L_ed -/
theorem c_L_ed (l : Launch) (G : gG) (h : Nat) (mo : Nat) (q : Nat) (n : Nat) (N : Nat) (f : Nat → Option Nat) (i : Nat) (y : Nat) (hi : i < n) (hnN : n ≤ N) (hN : N ≤ 300) (hy : f i = some y) : gMet (S := Unit) l G yJx4a65c_elementData_915e3 wsJx4a65c_elementData_915e3 rm_c_L_ed [.ref h, .int (nI i)] [(h, .inr (2, [.int (nI mo), .ref q, .int (nI n)])), (q, .inl (G.2.2.1 4, N, .inr (.inr (.inr (.inr f)))))] (fun _ => True) (fun _ => some (.ref y)) (fun _ => [(h, .inr (2, [.int (nI mo), .ref q, .int (nI n)])), (q, .inl (G.2.2.1 4, N, .inr (.inr (.inr (.inr f)))))]) := by
  refine gOf (maxL := 2) (ret := (some (.object "java/lang/Object"))) (cc := cJx4a65c_elementData_915e3) (by decide) rfl (Nat.le_of_ble_eq_true rfl) ?_
  intro P9 e9 s m9 args below meth c9 A ls H locs Q hQ hx hb hml hr hown hts hlocks hin hK hP hD hS hA hE hl
  have hown : s.vm.findClass RJx4a65c = some m9.cls := hown
  have hl : lv_has ls 2 [(0, .ref h), (1, .int (nI i))] := hl
  refine lv_aload_n hx hb dJx4a65c_elementData_915e3_0 rfl (lv_at hl 0 rfl) ?_
  refine va_get (D := gD G) (ci := 2) (v := .ref q) (C := RJx4a65c) (T := TJx4a65c) (N := 3) hx hb hts (by decide +kernel) hown hK hP 0 rfl rfl 1 (by decide) (hts (.fieldLink RJx4a65c 9 "java/util/ArrayList" "elementData" "[Ljava/lang/Object;") (by decide +kernel)) (fun _ h9 => h9) rfl dJx4a65c_elementData_915e3_1 ?_
  refine lv_iload_n hx hb dJx4a65c_elementData_915e3_4 rfl (lv_at hl 1 rfl) ?_
  refine gQ_ald (v := y) hx hb hK hP 1 rfl (by omega) (by omega) hy dJx4a65c_elementData_915e3_5 ?_
  exact gAret (hQ := hQ) hx hb hr (by first | exact Or.inl ⟨_, rfl⟩ | exact Or.inr ⟨_, rfl⟩) hlocks hP hD hS () trivial (by rfl) [0, 1] (by decide) (by rfl) (Nat.le_of_ble_eq_true rfl) (Nat.le_of_ble_eq_true rfl) dJx4a65c_elementData_915e3_6

def rm_c_L_get : Room := { frames := 2, cells := 0, slots := 0, locals := 43 }
set_option maxHeartbeats 4000000 in
set_option maxRecDepth 100000 in
/-- c_L_get -/
theorem c_L_get (l : Launch) (G : gG) (h : Nat) (mo : Nat) (q : Nat) (n : Nat) (N : Nat) (f : Nat → Option Nat) (i : Nat) (y : Nat) (hi : i < n) (hnN : n ≤ N) (hN : N ≤ 300) (hy : f i = some y) : gMet (S := Unit) l G yJx4a65c_get_915e3 wsJx4a65c_get_915e3 rm_c_L_get [.ref h, .int (nI i)] [(h, .inr (2, [.int (nI mo), .ref q, .int (nI n)])), (q, .inl (G.2.2.1 4, N, .inr (.inr (.inr (.inr f)))))] (fun _ => True) (fun _ => some (.ref y)) (fun _ => [(h, .inr (2, [.int (nI mo), .ref q, .int (nI n)])), (q, .inl (G.2.2.1 4, N, .inr (.inr (.inr (.inr f)))))]) := by
  refine gOf (maxL := 2) (ret := (some (.object "java/lang/Object"))) (cc := cJx4a65c_get_915e3) (by decide) rfl (Nat.le_of_ble_eq_true rfl) ?_
  intro P9 e9 s m9 args below meth c9 A ls H locs Q hQ hx hb hml hr hown hts hlocks hin hK hP hD hS hA hE hl
  have hown : s.vm.findClass RJx4a65c = some m9.cls := hown
  have hl : lv_has ls 2 [(0, .ref h), (1, .int (nI i))] := hl
  refine lv_iload_n hx hb dJx4a65c_get_915e3_0 rfl (lv_at hl 1 rfl) ?_
  refine lv_aload_n hx hb dJx4a65c_get_915e3_1 rfl (lv_at hl 0 rfl) ?_
  refine va_get (D := gD G) (ci := 2) (v := .int (nI n)) (C := RJx4a65c) (T := TJx4a65c) (N := 3) hx hb hts (by decide +kernel) hown hK hP 0 rfl rfl 2 (by decide) (hts (.fieldLink RJx4a65c 48 "java/util/ArrayList" "size" "I") (by decide +kernel)) (fun _ h9 => h9) rfl dJx4a65c_get_915e3_2 ?_
  refine gCS (As := [.int (nI i), .int (nI n)]) (rest := []) (wr := [(h, .inr (2, [.int (nI mo), .ref q, .int (nI n)])), (q, .inl (G.2.2.1 4, N, .inr (.inr (.inr (.inr f)))))]) hE (c_chk2 l G i n (by omega) (by omega)) (va_cwS 2 hts gJx4a65c_get_915e3_J15_checkIndex_7cf53 rfl rfl rfl (by decide +kernel) ⟨Nat.le_of_ble_eq_true rfl, Nat.le_of_ble_eq_true rfl⟩) ⟨hx, hb, hml, hown, hts⟩ hK hP hD hS hA [] [0, 1] rfl rfl (by decide) (by decide) (by decide) rfl hl rfl (Nat.le_of_ble_eq_true rfl) dJx4a65c_get_915e3_5 ⟨Nat.le_of_ble_eq_true rfl, Nat.le_of_ble_eq_true rfl⟩ (fun u9 H locs hu hP hD hS => ?_)
  have hP : va_P (gD G) vwCl [(h, .inr (2, [.int (nI mo), .ref q, .int (nI n)])), (q, .inl (G.2.2.1 4, N, .inr (.inr (.inr (.inr f)))))] H := hP
  have hD : va_D A [(h, .inr (2, [.int (nI mo), .ref q, .int (nI n)])), (q, .inl (G.2.2.1 4, N, .inr (.inr (.inr (.inr f)))))] := hD
  refine W.eq (g2 := F0 m9 8 ls [.int (nI i)]) rfl ?_
  refine lv_pop hx hb dJx4a65c_get_915e3_8 rfl ?_
  refine lv_aload_n hx hb dJx4a65c_get_915e3_9 rfl (lv_at hl 0 rfl) ?_
  refine lv_iload_n hx hb dJx4a65c_get_915e3_10 rfl (lv_at hl 1 rfl) ?_
  refine gCV (ci := 2) (q0 := 0) (C := RJx4a65c) (As := [.int (nI i)]) (rest := []) (wr := []) hE (c_L_ed l G h mo q n N f i y (by omega) (by omega) (by omega) hy) (cwV 1 hts gJx4a65c_get_915e3_Jx4a65c_elementData_915e3 rfl rfl rfl (by decide +kernel) ⟨Nat.le_of_ble_eq_true rfl, Nat.le_of_ble_eq_true rfl⟩) ⟨hx, hb, hml, hown, hts⟩ hK hP hD hS hA [0, 1] [] rfl rfl (by decide) (by decide) (by decide) rfl rfl rfl hl rfl (Nat.le_of_ble_eq_true rfl) dJx4a65c_get_915e3_11 ⟨Nat.le_of_ble_eq_true rfl, Nat.le_of_ble_eq_true rfl⟩ (fun u9 H locs hu hP hD hS => ?_)
  have hP : va_P (gD G) vwCl [(h, .inr (2, [.int (nI mo), .ref q, .int (nI n)])), (q, .inl (G.2.2.1 4, N, .inr (.inr (.inr (.inr f)))))] H := hP
  have hD : va_D A [(h, .inr (2, [.int (nI mo), .ref q, .int (nI n)])), (q, .inl (G.2.2.1 4, N, .inr (.inr (.inr (.inr f)))))] := hD
  refine W.eq (g2 := F0 m9 14 ls [.ref y]) rfl ?_
  exact gAret (hQ := hQ) hx hb hr (by first | exact Or.inl ⟨_, rfl⟩ | exact Or.inr ⟨_, rfl⟩) hlocks hP hD hS () trivial (by rfl) [0, 1] (by decide) (by rfl) (Nat.le_of_ble_eq_true rfl) (Nat.le_of_ble_eq_true rfl) dJx4a65c_get_915e3_14

def rm_c_Itr_init : Room := { frames := 1, cells := 0, slots := 0, locals := 12 }
set_option maxHeartbeats 4000000 in
set_option maxRecDepth 100000 in
/-- Itr(list) -/
theorem c_Itr_init (l : Launch) (G : gG) (q : Nat) (h : Nat) (mo : Nat) (ed : Value) (n : Nat)  : gMet (S := Unit) l G yJx35411_init_45d68 wsJx35411_init_45d68 rm_c_Itr_init [.ref q, .ref h] [(q, .inr (1, [.int (nI 0), .int (nI 0), .int (nI 0), .null])), (h, .inr (2, [.int (nI mo), ed, .int (nI n)]))] (fun _ => True) (fun _ => none) (fun _ => [(q, .inr (1, [.int (nI 0), .int (-1), .int (nI mo), .ref h])), (h, .inr (2, [.int (nI mo), ed, .int (nI n)]))]) := by
  refine gOf (maxL := 2) (ret := none) (cc := cJx35411_init_45d68) (by decide) rfl (Nat.le_of_ble_eq_true rfl) ?_
  intro P9 e9 s m9 args below meth c9 A ls H locs Q hQ hx hb hml hr hown hts hlocks hin hK hP hD hS hA hE hl
  have hown : s.vm.findClass RJx35411 = some m9.cls := hown
  have hl : lv_has ls 2 [(0, .ref q), (1, .ref h)] := hl
  refine lv_aload_n hx hb dJx35411_init_45d68_0 rfl (lv_at hl 0 rfl) ?_
  refine lv_aload_n hx hb dJx35411_init_45d68_1 rfl (lv_at hl 1 rfl) ?_
  refine va_putF (D := gD G) (ci := 1) (v := .ref h) (ty := (tyJx35411 3)) (C := RJx35411) (T := TJx35411) (N := 4) hx hb hts (by decide +kernel) tyJx35411 tyJx35411_ok nmJx35411 hown hK hP hD hS 0 rfl rfl 3 (by decide) (hts (.fieldLink RJx35411 1 "java/util/ArrayList$Itr" "this$0" "Ljava/util/ArrayList;") (by decide +kernel)) (fun _ h9 => h9) rfl hin rfl (by decide +kernel) rfl rfl (Nat.le_of_ble_eq_true rfl) dJx35411_init_45d68_2 (fun H locs hP hD hS => ?_)
  have hP : va_P (gD G) vwCl [(q, .inr (1, [.int (nI 0), .int (nI 0), .int (nI 0), .ref h])), (h, .inr (2, [.int (nI mo), ed, .int (nI n)]))] H := hP
  have hD : va_D A [(q, .inr (1, [.int (nI 0), .int (nI 0), .int (nI 0), .ref h])), (h, .inr (2, [.int (nI mo), ed, .int (nI n)]))] := hD
  refine lv_aload_n hx hb dJx35411_init_45d68_5 rfl (lv_at hl 0 rfl) ?_
  refine W.objInit hx hb hown (hts (.methodLink RJx35411 7 objectInit) (by decide +kernel)) (hts (.instanceMethod objectInit) (by decide +kernel)) (hts _ (by decide +kernel)) rfl (by rw [hml]; exact hl.1) rfl dJx35411_init_45d68_6 (Nat.le_of_ble_eq_true rfl) (Nat.le_of_ble_eq_true rfl) ?_
  refine W.eq (g2 := F0 m9 9 ls []) rfl ?_
  refine lv_aload_n hx hb dJx35411_init_45d68_9 rfl (lv_at hl 0 rfl) ?_
  refine lv_iconst (v := (-1)) hx hb dJx35411_init_45d68_10 (by decide) ?_
  refine va_put (D := gD G) (ci := 1) (v := .int (-1)) (ty := .int) (C := RJx35411) (T := TJx35411) (N := 4) hx hb hts (by decide +kernel) tyJx35411 tyJx35411_ok nmJx35411 hown hK hP hD hS 0 rfl rfl 1 (by decide) (hts (.fieldLink RJx35411 13 "java/util/ArrayList$Itr" "lastRet" "I") (by decide +kernel)) (fun _ h9 => h9) rfl (by decide +kernel) rfl rfl (Nat.le_of_ble_eq_true rfl) dJx35411_init_45d68_11 (fun H locs hP hD hS => ?_)
  have hP : va_P (gD G) vwCl [(q, .inr (1, [.int (nI 0), .int (-1), .int (nI 0), .ref h])), (h, .inr (2, [.int (nI mo), ed, .int (nI n)]))] H := hP
  have hD : va_D A [(q, .inr (1, [.int (nI 0), .int (-1), .int (nI 0), .ref h])), (h, .inr (2, [.int (nI mo), ed, .int (nI n)]))] := hD
  refine lv_aload_n hx hb dJx35411_init_45d68_14 rfl (lv_at hl 0 rfl) ?_
  refine lv_aload_n hx hb dJx35411_init_45d68_15 rfl (lv_at hl 0 rfl) ?_
  refine va_get (D := gD G) (ci := 1) (v := .ref h) (C := RJx35411) (T := TJx35411) (N := 4) hx hb hts (by decide +kernel) hown hK hP 0 rfl rfl 3 (by decide) (hts (.fieldLink RJx35411 1 "java/util/ArrayList$Itr" "this$0" "Ljava/util/ArrayList;") (by decide +kernel)) (fun _ h9 => h9) rfl dJx35411_init_45d68_16 ?_
  refine va_get (D := gD G) (ci := 2) (v := .int (nI mo)) (C := RJx4a65c) (T := TJx4a65c) (N := 3) hx hb hts (by decide +kernel) hown hK hP 1 rfl rfl 0 (by decide) (hts (.fieldLink RJx35411 17 "java/util/ArrayList" "modCount" "I") (by decide +kernel)) (u_same (hts (.sameField "java/util/ArrayList" "java/util/AbstractList" "modCount" "I") (by decide +kernel))) rfl dJx35411_init_45d68_19 ?_
  refine va_put (D := gD G) (ci := 1) (v := .int (nI mo)) (ty := .int) (C := RJx35411) (T := TJx35411) (N := 4) hx hb hts (by decide +kernel) tyJx35411 tyJx35411_ok nmJx35411 hown hK hP hD hS 0 rfl rfl 2 (by decide) (hts (.fieldLink RJx35411 22 "java/util/ArrayList$Itr" "expectedModCount" "I") (by decide +kernel)) (fun _ h9 => h9) rfl (by decide +kernel) rfl rfl (Nat.le_of_ble_eq_true rfl) dJx35411_init_45d68_22 (fun H locs hP hD hS => ?_)
  have hP : va_P (gD G) vwCl [(q, .inr (1, [.int (nI 0), .int (-1), .int (nI mo), .ref h])), (h, .inr (2, [.int (nI mo), ed, .int (nI n)]))] H := hP
  have hD : va_D A [(q, .inr (1, [.int (nI 0), .int (-1), .int (nI mo), .ref h])), (h, .inr (2, [.int (nI mo), ed, .int (nI n)]))] := hD
  exact gVret (hQ := hQ) hx hb hr hlocks hP hD hS () trivial (by rfl) [0, 1] (by decide) (by rfl) (Nat.le_of_ble_eq_true rfl) (Nat.le_of_ble_eq_true rfl) dJx35411_init_45d68_25

def rm_c_L_iterator : Room := { frames := 2, cells := 1, slots := 4, locals := 33 }
set_option maxHeartbeats 4000000 in
set_option maxRecDepth 100000 in
/-- iterator() -/
theorem c_L_iterator (l : Launch) (G : gG) (h : Nat) (mo : Nat) (ed : Value) (n : Nat)  : gMet (S := Nat) l G yJx4a65c_iterator_32c93 wsJx4a65c_iterator_32c93 rm_c_L_iterator [.ref h] [(h, .inr (2, [.int (nI mo), ed, .int (nI n)]))] (fun _ => True) (fun q => some (.ref q)) (fun q => [(q, .inr (1, [.int (nI 0), .int (-1), .int (nI mo), .ref h])), (h, .inr (2, [.int (nI mo), ed, .int (nI n)]))]) := by
  refine gOf (maxL := 1) (ret := (some (.object "java/util/Iterator"))) (cc := cJx4a65c_iterator_32c93) (by decide) rfl (Nat.le_of_ble_eq_true rfl) ?_
  intro P9 e9 s m9 args below meth c9 A ls H locs Q hQ hx hb hml hr hown hts hlocks hin hK hP hD hS hA hE hl
  have hown : s.vm.findClass RJx4a65c = some m9.cls := hown
  have hl : lv_has ls 1 [(0, .ref h)] := hl
  refine va_new (ci := 1) (fs := [.int (nI 0), .int (nI 0), .int (nI 0), .null]) (C := RJx35411) (T := TJx35411) (N := 4) hx hb hts (by decide +kernel) tyJx35411 tyJx35411_ok hown (hts (.classLink RJx4a65c 267 RJx35411) (by decide +kernel)) (hts (.instantiable RJx35411 4) (by decide +kernel)) (hts (.initialized RJx35411) (by decide +kernel)) hK hP hD hS hA rfl (fun j hj => by rcases (show j = 0 ∨ j = 1 ∨ j = 2 ∨ j = 3 by omega) with rfl | rfl | rfl | rfl <;> rfl) (Nat.le_of_ble_eq_true rfl) (Nat.le_of_ble_eq_true rfl) dJx4a65c_iterator_32c93_0 (fun q1 H hP hD hS => ?_)
  have hP : va_P (gD G) vwCl [(h, .inr (2, [.int (nI mo), ed, .int (nI n)])), (q1, .inr (1, [.int (nI 0), .int (nI 0), .int (nI 0), .null]))] H := hP
  have hD : va_D A [(h, .inr (2, [.int (nI mo), ed, .int (nI n)])), (q1, .inr (1, [.int (nI 0), .int (nI 0), .int (nI 0), .null]))] := hD
  refine W.widen (k := 1) (n := 4) (Nat.le_of_ble_eq_true rfl) (Nat.le_of_ble_eq_true rfl) ?_
  refine lv_dup hx hb dJx4a65c_iterator_32c93_3 rfl ?_
  refine lv_aload_n hx hb dJx4a65c_iterator_32c93_4 rfl (lv_at hl 0 rfl) ?_
  refine gCI (As := [.ref h]) (rest := [.ref q1]) (wr := []) hE (c_Itr_init l G q1 h mo (ed) n) (cwI 1 hts ggJx4a65c_iterator_32c93_Jx35411_init_45d68 rfl rfl rfl (hts (.initialized RJx35411) (by decide +kernel)) (hts (.methodLink RJx4a65c 269 yJx35411_init_45d68) (by decide +kernel)) (hts (.instanceMethod yJx35411_init_45d68) (by decide +kernel)) rfl (by decide +kernel) ⟨Nat.le_of_ble_eq_true rfl, Nat.le_of_ble_eq_true rfl⟩) ⟨hx, hb, hml, hown, hts⟩ hK hP hD hS hA [1, 0] [] rfl rfl (by decide) (by decide) (by decide) rfl hl rfl (Nat.le_of_ble_eq_true rfl) dJx4a65c_iterator_32c93_5 ⟨Nat.le_of_ble_eq_true rfl, Nat.le_of_ble_eq_true rfl⟩ (fun u9 H locs hu hP hD hS => ?_)
  have hP : va_P (gD G) vwCl [(q1, .inr (1, [.int (nI 0), .int (-1), .int (nI mo), .ref h])), (h, .inr (2, [.int (nI mo), ed, .int (nI n)]))] H := hP
  have hD : va_D A [(q1, .inr (1, [.int (nI 0), .int (-1), .int (nI mo), .ref h])), (h, .inr (2, [.int (nI mo), ed, .int (nI n)]))] := hD
  refine W.eq (g2 := F0 m9 8 ls [.ref q1]) rfl ?_
  exact gAret (hQ := hQ) hx hb hr (by first | exact Or.inl ⟨_, rfl⟩ | exact Or.inr ⟨_, rfl⟩) hlocks hP hD hS q1 trivial (by rfl) [0, 1] (by decide) (by rfl) (Nat.le_of_ble_eq_true rfl) (Nat.le_of_ble_eq_true rfl) dJx4a65c_iterator_32c93_8

def rm_c_Itr_hasNext : Room := { frames := 0, cells := 0, slots := 0, locals := 0 }
set_option maxHeartbeats 4000000 in
set_option maxRecDepth 100000 in
/-- hasNext() -/
theorem c_Itr_hasNext (l : Launch) (G : gG) (q : Nat) (cu : Nat) (la : Int32) (h : Nat) (mo : Nat) (ed : Value) (n : Nat) (hc : cu ≤ n) (hn : n < 2 ^ 31) : gMet (S := Unit) l G yJx35411_hasNext_aae02 wsJx35411_hasNext_aae02 rm_c_Itr_hasNext [.ref q] [(q, .inr (1, [.int (nI cu), .int la, .int (nI mo), .ref h])), (h, .inr (2, [.int (nI mo), ed, .int (nI n)]))] (fun _ => True) (fun _ => some (.int (nI (if cu = n then 0 else 1)))) (fun _ => [(q, .inr (1, [.int (nI cu), .int la, .int (nI mo), .ref h])), (h, .inr (2, [.int (nI mo), ed, .int (nI n)]))]) := by
  refine gOf (maxL := 1) (ret := (some .boolean)) (cc := cJx35411_hasNext_aae02) (by decide) rfl (Nat.le_of_ble_eq_true rfl) ?_
  intro P9 e9 s m9 args below meth c9 A ls H locs Q hQ hx hb hml hr hown hts hlocks hin hK hP hD hS hA hE hl
  have hown : s.vm.findClass RJx35411 = some m9.cls := hown
  have hl : lv_has ls 1 [(0, .ref q)] := hl
  refine lv_aload_n hx hb dJx35411_hasNext_aae02_0 rfl (lv_at hl 0 rfl) ?_
  refine va_get (D := gD G) (ci := 1) (v := .int (nI cu)) (C := RJx35411) (T := TJx35411) (N := 4) hx hb hts (by decide +kernel) hown hK hP 0 rfl rfl 0 (by decide) (hts (.fieldLink RJx35411 25 "java/util/ArrayList$Itr" "cursor" "I") (by decide +kernel)) (fun _ h9 => h9) rfl dJx35411_hasNext_aae02_1 ?_
  refine lv_aload_n hx hb dJx35411_hasNext_aae02_4 rfl (lv_at hl 0 rfl) ?_
  refine va_get (D := gD G) (ci := 1) (v := .ref h) (C := RJx35411) (T := TJx35411) (N := 4) hx hb hts (by decide +kernel) hown hK hP 0 rfl rfl 3 (by decide) (hts (.fieldLink RJx35411 1 "java/util/ArrayList$Itr" "this$0" "Ljava/util/ArrayList;") (by decide +kernel)) (fun _ h9 => h9) rfl dJx35411_hasNext_aae02_5 ?_
  refine va_getN (D := gD G) (ci := 2) (v := .int (nI n)) (C := RJx4a65c) (T := TJx4a65c) (N := 3) hx hb hts (by decide +kernel) hown hK hP 1 rfl rfl 2 (by decide) (va_Nw.use rfl hE.1.2) (fun _ h9 => h9) rfl dJx35411_hasNext_aae02_8 ?_
  refine gN_eq (tgt := 18) hx hb dJx35411_hasNext_aae02_11 (by decide) (by omega) (by omega) (fun c1 => ?_) (fun c1 => ?_)
  · refine lv_iconst (v := nI 0) hx hb dJx35411_hasNext_aae02_18 (by decide) ?_
    refine gTop (y := nI (if cu = n then 0 else 1)) (congrArg nI (if_pos c1).symm) ?_
    exact gZret (hQ := hQ) hx hb hr hlocks (by split <;> first | exact Or.inl rfl | exact Or.inr rfl) hP hD hS () trivial (by rfl) [0, 1] (by decide) (by rfl) (Nat.le_of_ble_eq_true rfl) (Nat.le_of_ble_eq_true rfl) dJx35411_hasNext_aae02_19
  · refine lv_iconst (v := nI 1) hx hb dJx35411_hasNext_aae02_14 (by decide) ?_
    refine lv_goto (tgt := 19) hx hb dJx35411_hasNext_aae02_15 (by decide) ?_
    refine gTop (y := nI (if cu = n then 0 else 1)) (congrArg nI (if_neg c1).symm) ?_
    exact gZret (hQ := hQ) hx hb hr hlocks (by split <;> first | exact Or.inl rfl | exact Or.inr rfl) hP hD hS () trivial (by rfl) [0, 1] (by decide) (by rfl) (Nat.le_of_ble_eq_true rfl) (Nat.le_of_ble_eq_true rfl) dJx35411_hasNext_aae02_19

def rm_c_Itr_chk : Room := { frames := 0, cells := 0, slots := 0, locals := 0 }
set_option maxHeartbeats 4000000 in
set_option maxRecDepth 100000 in
/-- checkForComodification() -/
theorem c_Itr_chk (l : Launch) (G : gG) (q : Nat) (cu : Nat) (la : Int32) (h : Nat) (mo : Nat) (ed : Value) (n : Nat) (hmo : mo < 1000) : gMet (S := Unit) l G yJx35411_checkForComodification_da8c8 wsJx35411_checkForComodification_da8c8 rm_c_Itr_chk [.ref q] [(q, .inr (1, [.int (nI cu), .int la, .int (nI mo), .ref h])), (h, .inr (2, [.int (nI mo), ed, .int (nI n)]))] (fun _ => True) (fun _ => none) (fun _ => [(q, .inr (1, [.int (nI cu), .int la, .int (nI mo), .ref h])), (h, .inr (2, [.int (nI mo), ed, .int (nI n)]))]) := by
  refine gOf (maxL := 1) (ret := none) (cc := cJx35411_checkForComodification_da8c8) (by decide) rfl (Nat.le_of_ble_eq_true rfl) ?_
  intro P9 e9 s m9 args below meth c9 A ls H locs Q hQ hx hb hml hr hown hts hlocks hin hK hP hD hS hA hE hl
  have hown : s.vm.findClass RJx35411 = some m9.cls := hown
  have hl : lv_has ls 1 [(0, .ref q)] := hl
  refine lv_aload_n hx hb dJx35411_checkForComodification_da8c8_0 rfl (lv_at hl 0 rfl) ?_
  refine va_get (D := gD G) (ci := 1) (v := .ref h) (C := RJx35411) (T := TJx35411) (N := 4) hx hb hts (by decide +kernel) hown hK hP 0 rfl rfl 3 (by decide) (hts (.fieldLink RJx35411 1 "java/util/ArrayList$Itr" "this$0" "Ljava/util/ArrayList;") (by decide +kernel)) (fun _ h9 => h9) rfl dJx35411_checkForComodification_da8c8_1 ?_
  refine va_get (D := gD G) (ci := 2) (v := .int (nI mo)) (C := RJx4a65c) (T := TJx4a65c) (N := 3) hx hb hts (by decide +kernel) hown hK hP 1 rfl rfl 0 (by decide) (hts (.fieldLink RJx35411 17 "java/util/ArrayList" "modCount" "I") (by decide +kernel)) (u_same (hts (.sameField "java/util/ArrayList" "java/util/AbstractList" "modCount" "I") (by decide +kernel))) rfl dJx35411_checkForComodification_da8c8_4 ?_
  refine lv_aload_n hx hb dJx35411_checkForComodification_da8c8_7 rfl (lv_at hl 0 rfl) ?_
  refine va_get (D := gD G) (ci := 1) (v := .int (nI mo)) (C := RJx35411) (T := TJx35411) (N := 4) hx hb hts (by decide +kernel) hown hK hP 0 rfl rfl 2 (by decide) (hts (.fieldLink RJx35411 22 "java/util/ArrayList$Itr" "expectedModCount" "I") (by decide +kernel)) (fun _ h9 => h9) rfl dJx35411_checkForComodification_da8c8_8 ?_
  refine gN_eq (tgt := 22) hx hb dJx35411_checkForComodification_da8c8_11 (by decide) (by omega) (by omega) (fun c1 => ?_) (fun c1 => absurd c1 (by omega))
  exact gVret (hQ := hQ) hx hb hr hlocks hP hD hS () trivial (by rfl) [0, 1] (by decide) (by rfl) (Nat.le_of_ble_eq_true rfl) (Nat.le_of_ble_eq_true rfl) dJx35411_checkForComodification_da8c8_22

def rm_c_Itr_next : Room := { frames := 1, cells := 0, slots := 0, locals := 20 }
set_option maxHeartbeats 4000000 in
set_option maxRecDepth 100000 in
/-- next() -/
theorem c_Itr_next (l : Launch) (G : gG) (q : Nat) (cu : Nat) (la : Int32) (h : Nat) (mo : Nat) (e : Nat) (n : Nat) (N : Nat) (f : Nat → Option Nat) (y : Nat) (hc : cu < n) (hnN : n ≤ N) (hN : N ≤ 300) (hmo : mo < 1000) (hy : f cu = some y) : gMet (S := Unit) l G yJx35411_next_0502b wsJx35411_next_0502b rm_c_Itr_next [.ref q] [(q, .inr (1, [.int (nI cu), .int la, .int (nI mo), .ref h])), (h, .inr (2, [.int (nI mo), .ref e, .int (nI n)])), (e, .inl (G.2.2.1 4, N, .inr (.inr (.inr (.inr f)))))] (fun _ => True) (fun _ => some (.ref y)) (fun _ => [(q, .inr (1, [.int (nI (cu + 1)), .int (nI cu), .int (nI mo), .ref h])), (h, .inr (2, [.int (nI mo), .ref e, .int (nI n)])), (e, .inl (G.2.2.1 4, N, .inr (.inr (.inr (.inr f)))))]) := by
  refine gOf (maxL := 3) (ret := (some (.object "java/lang/Object"))) (cc := cJx35411_next_0502b) (by decide) rfl (Nat.le_of_ble_eq_true rfl) ?_
  intro P9 e9 s m9 args below meth c9 A ls H locs Q hQ hx hb hml hr hown hts hlocks hin hK hP hD hS hA hE hl
  have hown : s.vm.findClass RJx35411 = some m9.cls := hown
  have hl : lv_has ls 3 [(0, .ref q)] := hl
  refine lv_aload_n hx hb dJx35411_next_0502b_0 rfl (lv_at hl 0 rfl) ?_
  refine gCV (ci := 1) (q0 := 0) (C := RJx35411) (As := []) (rest := []) (wr := [(e, .inl (G.2.2.1 4, N, .inr (.inr (.inr (.inr f)))))]) hE (c_Itr_chk l G q cu la h mo (.ref e) n (by omega)) (cwV 0 hts gJx35411_next_0502b_Jx35411_checkForComodification_da8c8 rfl rfl rfl (by decide +kernel) ⟨Nat.le_of_ble_eq_true rfl, Nat.le_of_ble_eq_true rfl⟩) ⟨hx, hb, hml, hown, hts⟩ hK hP hD hS hA [0, 1] [2] rfl rfl (by decide) (by decide) (by decide) rfl rfl rfl hl rfl (Nat.le_of_ble_eq_true rfl) dJx35411_next_0502b_1 ⟨Nat.le_of_ble_eq_true rfl, Nat.le_of_ble_eq_true rfl⟩ (fun u9 H locs hu hP hD hS => ?_)
  have hP : va_P (gD G) vwCl [(e, .inl (G.2.2.1 4, N, .inr (.inr (.inr (.inr f))))), (q, .inr (1, [.int (nI cu), .int la, .int (nI mo), .ref h])), (h, .inr (2, [.int (nI mo), .ref e, .int (nI n)]))] H := hP
  have hD : va_D A [(e, .inl (G.2.2.1 4, N, .inr (.inr (.inr (.inr f))))), (q, .inr (1, [.int (nI cu), .int la, .int (nI mo), .ref h])), (h, .inr (2, [.int (nI mo), .ref e, .int (nI n)]))] := hD
  refine W.eq (g2 := F0 m9 4 ls []) rfl ?_
  refine lv_aload_n hx hb dJx35411_next_0502b_4 rfl (lv_at hl 0 rfl) ?_
  refine va_get (D := gD G) (ci := 1) (v := .int (nI cu)) (C := RJx35411) (T := TJx35411) (N := 4) hx hb hts (by decide +kernel) hown hK hP 1 rfl rfl 0 (by decide) (hts (.fieldLink RJx35411 25 "java/util/ArrayList$Itr" "cursor" "I") (by decide +kernel)) (fun _ h9 => h9) rfl dJx35411_next_0502b_5 ?_
  refine lv_istore_n (lv' := [(1, .int (nI cu)), (0, .ref q)]) hx hb dJx35411_next_0502b_8 rfl hl (by decide) rfl (fun ls hl => ?_)
  refine lv_iload_n hx hb dJx35411_next_0502b_9 rfl (lv_at hl 0 rfl) ?_
  refine lv_aload_n hx hb dJx35411_next_0502b_10 rfl (lv_at hl 1 rfl) ?_
  refine va_get (D := gD G) (ci := 1) (v := .ref h) (C := RJx35411) (T := TJx35411) (N := 4) hx hb hts (by decide +kernel) hown hK hP 1 rfl rfl 3 (by decide) (hts (.fieldLink RJx35411 1 "java/util/ArrayList$Itr" "this$0" "Ljava/util/ArrayList;") (by decide +kernel)) (fun _ h9 => h9) rfl dJx35411_next_0502b_11 ?_
  refine va_getN (D := gD G) (ci := 2) (v := .int (nI n)) (C := RJx4a65c) (T := TJx4a65c) (N := 3) hx hb hts (by decide +kernel) hown hK hP 2 rfl rfl 2 (by decide) (va_Nw.use rfl hE.1.2) (fun _ h9 => h9) rfl dJx35411_next_0502b_14 ?_
  refine gN_lt (tgt := 28) hx hb dJx35411_next_0502b_17 (by decide) (by omega) (by omega) (fun c1 => ?_) (fun c1 => absurd c1 (by omega))
  refine lv_aload_n hx hb dJx35411_next_0502b_28 rfl (lv_at hl 1 rfl) ?_
  refine va_get (D := gD G) (ci := 1) (v := .ref h) (C := RJx35411) (T := TJx35411) (N := 4) hx hb hts (by decide +kernel) hown hK hP 1 rfl rfl 3 (by decide) (hts (.fieldLink RJx35411 1 "java/util/ArrayList$Itr" "this$0" "Ljava/util/ArrayList;") (by decide +kernel)) (fun _ h9 => h9) rfl dJx35411_next_0502b_29 ?_
  refine va_get (D := gD G) (ci := 2) (v := .ref e) (C := RJx4a65c) (T := TJx4a65c) (N := 3) hx hb hts (by decide +kernel) hown hK hP 2 rfl rfl 1 (by decide) (hts (.fieldLink RJx35411 37 "java/util/ArrayList" "elementData" "[Ljava/lang/Object;") (by decide +kernel)) (fun _ h9 => h9) rfl dJx35411_next_0502b_32 ?_
  refine lv_astore_n (lv' := [(2, .ref e), (1, .int (nI cu)), (0, .ref q)]) hx hb dJx35411_next_0502b_35 rfl hl (by decide) rfl (fun ls hl => ?_)
  refine lv_iload_n hx hb dJx35411_next_0502b_36 rfl (lv_at hl 1 rfl) ?_
  refine lv_aload_n hx hb dJx35411_next_0502b_37 rfl (lv_at hl 0 rfl) ?_
  refine va_alen (v := nI N) hx hb hK hP 0 4 rfl rfl rfl dJx35411_next_0502b_38 ?_
  refine gN_lt (tgt := 50) hx hb dJx35411_next_0502b_39 (by decide) (by omega) (by omega) (fun c2 => ?_) (fun c2 => absurd c2 (by omega))
  refine lv_aload_n hx hb dJx35411_next_0502b_50 rfl (lv_at hl 2 rfl) ?_
  refine lv_iload_n hx hb dJx35411_next_0502b_51 rfl (lv_at hl 1 rfl) ?_
  refine lv_iconst (v := nI 1) hx hb dJx35411_next_0502b_52 (by decide) ?_
  refine lv_iadd hx hb dJx35411_next_0502b_53 ?_
  refine gTop (y := (nI (cu + 1))) (nI_add _ _) ?_
  refine va_put (D := gD G) (ci := 1) (v := .int (nI (cu + 1))) (ty := .int) (C := RJx35411) (T := TJx35411) (N := 4) hx hb hts (by decide +kernel) tyJx35411 tyJx35411_ok nmJx35411 hown hK hP hD hS 1 rfl rfl 0 (by decide) (hts (.fieldLink RJx35411 25 "java/util/ArrayList$Itr" "cursor" "I") (by decide +kernel)) (fun _ h9 => h9) rfl (by decide +kernel) rfl rfl (Nat.le_of_ble_eq_true rfl) dJx35411_next_0502b_54 (fun H locs hP hD hS => ?_)
  have hP : va_P (gD G) vwCl [(e, .inl (G.2.2.1 4, N, .inr (.inr (.inr (.inr f))))), (q, .inr (1, [.int (nI (cu + 1)), .int la, .int (nI mo), .ref h])), (h, .inr (2, [.int (nI mo), .ref e, .int (nI n)]))] H := hP
  have hD : va_D A [(e, .inl (G.2.2.1 4, N, .inr (.inr (.inr (.inr f))))), (q, .inr (1, [.int (nI (cu + 1)), .int la, .int (nI mo), .ref h])), (h, .inr (2, [.int (nI mo), .ref e, .int (nI n)]))] := hD
  refine lv_aload_n hx hb dJx35411_next_0502b_57 rfl (lv_at hl 0 rfl) ?_
  refine lv_aload_n hx hb dJx35411_next_0502b_58 rfl (lv_at hl 2 rfl) ?_
  refine lv_iload_n hx hb dJx35411_next_0502b_59 rfl (lv_at hl 1 rfl) ?_
  refine lv_dup_x1 hx hb dJx35411_next_0502b_60 rfl rfl ?_
  refine va_put (D := gD G) (ci := 1) (v := .int (nI cu)) (ty := .int) (C := RJx35411) (T := TJx35411) (N := 4) hx hb hts (by decide +kernel) tyJx35411 tyJx35411_ok nmJx35411 hown hK hP hD hS 1 rfl rfl 1 (by decide) (hts (.fieldLink RJx35411 13 "java/util/ArrayList$Itr" "lastRet" "I") (by decide +kernel)) (fun _ h9 => h9) rfl (by decide +kernel) rfl rfl (Nat.le_of_ble_eq_true rfl) dJx35411_next_0502b_61 (fun H locs hP hD hS => ?_)
  have hP : va_P (gD G) vwCl [(e, .inl (G.2.2.1 4, N, .inr (.inr (.inr (.inr f))))), (q, .inr (1, [.int (nI (cu + 1)), .int (nI cu), .int (nI mo), .ref h])), (h, .inr (2, [.int (nI mo), .ref e, .int (nI n)]))] H := hP
  have hD : va_D A [(e, .inl (G.2.2.1 4, N, .inr (.inr (.inr (.inr f))))), (q, .inr (1, [.int (nI (cu + 1)), .int (nI cu), .int (nI mo), .ref h])), (h, .inr (2, [.int (nI mo), .ref e, .int (nI n)]))] := hD
  refine gQ_ald (v := y) hx hb hK hP 0 rfl (by omega) (by omega) hy dJx35411_next_0502b_64 ?_
  exact gAret (hQ := hQ) hx hb hr (by first | exact Or.inl ⟨_, rfl⟩ | exact Or.inr ⟨_, rfl⟩) hlocks hP hD hS () trivial (by rfl) [1, 2, 0] (by decide) (by rfl) (Nat.le_of_ble_eq_true rfl) (Nat.le_of_ble_eq_true rfl) dJx35411_next_0502b_65

def rm_c_valueOf : Room := { frames := 0, cells := 0, slots := 0, locals := 0 }
set_option maxHeartbeats 4000000 in
set_option maxRecDepth 100000 in
/-- Integer.valueOf(v) -/
theorem c_valueOf (l : Launch) (G : gG) (v : Nat) (hv : v < 128) : gMet (S := Unit) l G yJ6_valueOf_2dffe wsJ6_valueOf_2dffe rm_c_valueOf [.int (nI v)] [] (fun _ => True) (fun _ => some (.ref (gI G (v + 128)))) (fun _ => []) := by
  refine gOf (maxL := 1) (ret := (some (.object "java/lang/Integer"))) (cc := cJ6_valueOf_2dffe) (by decide) rfl (Nat.le_of_ble_eq_true rfl) ?_
  intro P9 e9 s m9 args below meth c9 A ls H locs Q hQ hx hb hml hr hown hts hlocks hin hK hP hD hS hA hE hl
  have hown : s.vm.findClass RJ6 = some m9.cls := hown
  have hl : lv_has ls 1 [(0, .int (nI v))] := hl
  refine lv_iload_n hx hb dJ6_valueOf_2dffe_0 rfl (lv_at hl 0 rfl) ?_
  refine lv_bipush (v := (-128)) hx hb dJ6_valueOf_2dffe_1 (by decide) ?_
  refine lv_icmp_lt (tgt := 23) hx hb dJ6_valueOf_2dffe_3 (by decide) (fun h9 => absurd h9 (Int32.not_lt.mpr (Int32.le_trans (by decide) (nI_pos' (by omega))))) (fun _ => ?_)
  refine lv_iload_n hx hb dJ6_valueOf_2dffe_6 rfl (lv_at hl 0 rfl) ?_
  refine va_gets (v := .int 127) hx hb hE.2.2.2.1.2.1 hS hown (hts (.fieldLink RJ6 191 "java/lang/Integer$IntegerCache" "high" "I") (by decide +kernel)) (fun _ h9 => h9) dJ6_valueOf_2dffe_7 ?_
  refine gTop (y := nI 127) rfl ?_
  refine gN_gt (tgt := 23) hx hb dJ6_valueOf_2dffe_10 (by decide) (by omega) (by decide) (fun c1 => absurd c1 (by omega)) (fun c1 => ?_)
  refine va_gets (v := .ref (G.2.2.2 1)) hx hb hE.2.2.2.1.2.2 hS hown (hts (.fieldLink RJ6 195 "java/lang/Integer$IntegerCache" "cache" "[Ljava/lang/Integer;") (by decide +kernel)) (fun _ h9 => h9) dJ6_valueOf_2dffe_13 ?_
  refine lv_iload_n hx hb dJ6_valueOf_2dffe_16 rfl (lv_at hl 0 rfl) ?_
  refine lv_sipush (v := nI 128) hx hb dJ6_valueOf_2dffe_17 (by decide) ?_
  refine lv_iadd hx hb dJ6_valueOf_2dffe_20 ?_
  refine gTop (y := (nI (v + 128))) (nI_add _ _) ?_
  refine vb_tq (N := 256) (f := fun k => .ref (G.2.2.2 (k + 3))) hx hb hE.2.2.2.2.2.1 hS (vp_in_nI (by omega) (by omega)) (by rw [nI_clamp (by omega)]) dJ6_valueOf_2dffe_21 ?_
  exact gAret (hQ := hQ) hx hb hr (by first | exact Or.inl ⟨_, rfl⟩ | exact Or.inr ⟨_, rfl⟩) hlocks hP hD hS () trivial (by rfl) [] (by decide) (by rfl) (Nat.le_of_ble_eq_true rfl) (Nat.le_of_ble_eq_true rfl) dJ6_valueOf_2dffe_22

def rm_c_intValue : Room := { frames := 0, cells := 0, slots := 0, locals := 0 }
set_option maxHeartbeats 4000000 in
set_option maxRecDepth 100000 in
/-- intValue() -/
theorem c_intValue (l : Launch) (G : gG) (v : Nat) (hv : v < 128) : gMet (S := Unit) l G yJ6_intValue_8abf5 wsJ6_intValue_8abf5 rm_c_intValue [.ref (gI G (v + 128))] [] (fun _ => True) (fun _ => some (.int (nI v))) (fun _ => []) := by
  refine gOf (maxL := 1) (ret := (some .int)) (cc := cJ6_intValue_8abf5) (by decide) rfl (Nat.le_of_ble_eq_true rfl) ?_
  intro P9 e9 s m9 args below meth c9 A ls H locs Q hQ hx hb hml hr hown hts hlocks hin hK hP hD hS hA hE hl
  have hown : s.vm.findClass RJ6 = some m9.cls := hown
  have hl : lv_has ls 1 [(0, .ref (gI G (v + 128)))] := hl
  refine lv_aload_n hx hb dJ6_intValue_8abf5_0 rfl (lv_at hl 0 rfl) ?_
  refine va_getX (i := v + 128) (v := fun k => .int (vb_c k)) (ad := fun k => G.2.2.2 (k + 3)) hx hb hE.2.2.2.2.2.2.2 (by omega) hS hown (hts (.fieldLink RJ6 205 "java/lang/Integer" "value" "I") (by decide +kernel)) (fun _ h9 => h9) dJ6_intValue_8abf5_1 ?_
  refine gTop (y := nI v) (gI_val v hv) ?_
  exact gIret (hQ := hQ) hx hb hr hlocks hP hD hS () trivial (by rfl) [] (by decide) (by rfl) (Nat.le_of_ble_eq_true rfl) (Nat.le_of_ble_eq_true rfl) dJ6_intValue_8abf5_4
