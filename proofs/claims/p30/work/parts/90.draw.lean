theorem below_lt (x : Int32) {n : Nat} (h0 : 0 < n) (hn : n < 2 ^ 31) : ∃ r, r < n ∧ (x &&& 2147483647) - (x &&& 2147483647) / nI n * nI n = nI r := by
  have h : ∃ a : Nat, a < 2 ^ 31 ∧ x &&& 2147483647 = nI a := by
    refine ⟨(x &&& 2147483647).toInt.toNat, ?_, ?_⟩
    · have := (x &&& 2147483647).toInt_lt
      omega
    · have hp : 0 ≤ (x &&& 2147483647).toInt := by
        have h1 : (x &&& 2147483647).toBitVec.msb = false := by
          rw [Int32.toBitVec_and, BitVec.msb_and]
          exact Bool.and_false _
        exact BitVec.toInt_nonneg_of_msb_false h1
      apply Int32.toInt_inj.mp
      rw [nI_toInt (by have := (x &&& 2147483647).toInt_lt; omega)]
      omega
  obtain ⟨a, ha, e⟩ := h
  rw [e]
  exact ⟨a % n, Nat.mod_lt _ h0, pk_rem ha h0 hn⟩

def rm_c_below : Room := { frames := 0, cells := 0, slots := 0, locals := 0 }
set_option maxHeartbeats 4000000 in
set_option maxRecDepth 100000 in
/-- below(v, n) -/
theorem c_below (l : Launch) (G : gG) (v : Int32) (n : Nat) (h0 : 0 < n) (hn : n < 2 ^ 31) : gMet (S := Nat) l G yL_below wsL_below rm_c_below [.int v, .int (nI n)] [] (fun r => r < n) (fun r => some (.int (nI r))) (fun _ => []) := by
  refine gOf (maxL := 2) (ret := (some .int)) (cc := cL_below) (by decide) rfl (Nat.le_of_ble_eq_true rfl) ?_
  intro P9 e9 s m9 args below meth c9 A ls H locs Q hQ hx hb hml hr hown hts hlocks hin hK hP hD hS hA hE hl
  have hown : s.vm.findClass RL = some m9.cls := hown
  have hl : lv_has ls 2 [(0, .int v), (1, .int (nI n))] := hl
  refine lv_iload_n hx hb dL_below_0 rfl (lv_at hl 0 rfl) ?_
  refine lv_ldc (v := 2147483647) hx hb hown (hts (.constant RL 7 2147483647) (by decide +kernel)) dL_below_1 ?_
  refine lv_iand hx hb dL_below_3 ?_
  refine lv_iload_n hx hb dL_below_4 rfl (lv_at hl 1 rfl) ?_
  refine lv_irem hx hb dL_below_5 (nI_ne0 h0 hn) ?_
  obtain ⟨r, hr9, e⟩ := below_lt v h0 hn
  refine gTop (y := nI r) e ?_
  exact gIret (hQ := hQ) hx hb hr hlocks hP hD hS r hr9 (by rfl) [] (by decide) (by rfl) (Nat.le_of_ble_eq_true rfl) (Nat.le_of_ble_eq_true rfl) dL_below_6

def rm_c_cell : Room := { frames := 0, cells := 0, slots := 0, locals := 0 }
set_option maxHeartbeats 4000000 in
set_option maxRecDepth 100000 in
/-- cell(s, k) -/
theorem c_cell (l : Launch) (G : gG) (k : Nat) (hk : k < 1000) : gMet (S := Int32) l G yL_cell wsL_cell rm_c_cell [.ref (G.2.2.2 259), .int (nI k)] [] (fun _ => True) (fun r => some (.int r)) (fun _ => []) := by
  refine gOf (maxL := 2) (ret := (some .int)) (cc := cL_cell) (by decide) rfl (Nat.le_of_ble_eq_true rfl) ?_
  intro P9 e9 s m9 args below meth c9 A ls H locs Q hQ hx hb hml hr hown hts hlocks hin hK hP hD hS hA hE hl
  have hown : s.vm.findClass RL = some m9.cls := hown
  have hl : lv_has ls 2 [(0, .ref (G.2.2.2 259)), (1, .int (nI k))] := hl
  obtain ⟨L9, xs9, hL9, hT9⟩ := hE.1.1.2
  refine lv_iload_n hx hb dL_cell_0 rfl (lv_at hl 1 rfl) ?_
  refine lv_aload_n hx hb dL_cell_1 rfl (lv_at hl 0 rfl) ?_
  refine va_tlen (v := nI L9) hx hb hT9 hS rfl dL_cell_2 ?_
  refine gN_ge (tgt := 12) hx hb dL_cell_3 (by decide) (by omega) (by omega) (fun c1 => ?_) (fun c1 => ?_)
  · refine lv_ldc (v := 790386105) hx hb hown (hts (.constant RL 8 790386105) (by decide +kernel)) dL_cell_12 ?_
    refine lv_iload_n hx hb dL_cell_14 rfl (lv_at hl 1 rfl) ?_
    refine lv_iconst (v := nI 3) hx hb dL_cell_15 (by decide) ?_
    refine lv_iadd hx hb dL_cell_16 ?_
    refine gTop (y := (nI (k + 3))) (nI_add _ _) ?_
    refine lv_imul hx hb dL_cell_17 ?_
    exact gIret (hQ := hQ) hx hb hr hlocks hP hD hS (790386105 * (nI (k + 3))) trivial (by rfl) [] (by decide) (by rfl) (Nat.le_of_ble_eq_true rfl) (Nat.le_of_ble_eq_true rfl) dL_cell_18
  · refine lv_aload_n hx hb dL_cell_6 rfl (lv_at hl 0 rfl) ?_
    refine lv_iload_n hx hb dL_cell_7 rfl (lv_at hl 1 rfl) ?_
    refine va_ti (v := .int (xs9 (nI k).toNatClampNeg)) hx hb hT9 hS (vp_in_nI (by omega) (by omega)) rfl dL_cell_8 ?_
    refine lv_goto (tgt := 18) hx hb dL_cell_9 (by decide) ?_
    exact gIret (hQ := hQ) hx hb hr hlocks hP hD hS (xs9 (nI k).toNatClampNeg) trivial (by rfl) [] (by decide) (by rfl) (Nat.le_of_ble_eq_true rfl) (Nat.le_of_ble_eq_true rfl) dL_cell_18

def rm_c_drawn : Room := { frames := 1, cells := 0, slots := 0, locals := 21 }
set_option maxHeartbeats 4000000 in
set_option maxRecDepth 100000 in
/-- drawn(s, k, n) -/
theorem c_drawn (l : Launch) (G : gG) (k : Nat) (n : Nat) (hk : k < 1000) (h0 : 0 < n) (hn : n < 2 ^ 31) : gMet (S := Nat) l G yL_drawn wsL_drawn rm_c_drawn [.ref (G.2.2.2 259), .int (nI k), .int (nI n)] [] (fun r => r < n) (fun r => some (.int (nI r))) (fun _ => []) := by
  refine gOf (maxL := 3) (ret := (some .int)) (cc := cL_drawn) (by decide) rfl (Nat.le_of_ble_eq_true rfl) ?_
  intro P9 e9 s m9 args below meth c9 A ls H locs Q hQ hx hb hml hr hown hts hlocks hin hK hP hD hS hA hE hl
  have hown : s.vm.findClass RL = some m9.cls := hown
  have hl : lv_has ls 3 [(0, .ref (G.2.2.2 259)), (1, .int (nI k)), (2, .int (nI n))] := hl
  refine lv_aload_n hx hb dL_drawn_0 rfl (lv_at hl 0 rfl) ?_
  refine lv_iload_n hx hb dL_drawn_1 rfl (lv_at hl 1 rfl) ?_
  refine lv_bipush (v := nI 24) hx hb dL_drawn_2 (by decide) ?_
  refine lv_irem hx hb dL_drawn_4 (by decide) ?_
  refine gTop (y := nI (k % 24)) (pk_rem (by omega) (by omega) (by omega)) ?_
  refine gCS (As := [.ref (G.2.2.2 259), .int (nI (k % 24))]) (rest := []) (wr := []) hE (c_cell l G (k % 24) (by omega)) (va_cwS 2 hts gL_drawn_L_cell rfl rfl rfl (by decide +kernel) ⟨Nat.le_of_ble_eq_true rfl, Nat.le_of_ble_eq_true rfl⟩) ⟨hx, hb, hml, hown, hts⟩ hK hP hD hS hA [] [] rfl rfl (by decide) (by decide) (by decide) rfl hl rfl (Nat.le_of_ble_eq_true rfl) dL_drawn_5 ⟨Nat.le_of_ble_eq_true rfl, Nat.le_of_ble_eq_true rfl⟩ (fun x1 H locs hu hP hD hS => ?_)
  have hP : va_P (gD G) vwCl [] H := hP
  have hD : va_D A [] := hD
  refine W.eq (g2 := F0 m9 8 ls [.int x1]) rfl ?_
  refine lv_iload_n hx hb dL_drawn_8 rfl (lv_at hl 1 rfl) ?_
  refine lv_bipush (v := nI 24) hx hb dL_drawn_9 (by decide) ?_
  refine lv_idiv hx hb dL_drawn_11 (by decide) ?_
  refine gTop (y := nI (k / 24)) (pk_div (by omega) (by omega) (by omega)) ?_
  refine lv_bipush (v := nI 8) hx hb dL_drawn_12 (by decide) ?_
  refine lv_irem hx hb dL_drawn_14 (by decide) ?_
  refine gTop (y := nI ((k / 24) % 8)) (pk_rem (by omega) (by omega) (by omega)) ?_
  refine lv_ishr hx hb dL_drawn_15 ?_
  refine lv_sipush (v := nI 571) hx hb dL_drawn_16 (by decide) ?_
  refine lv_iload_n hx hb dL_drawn_19 rfl (lv_at hl 1 rfl) ?_
  refine lv_imul hx hb dL_drawn_20 ?_
  refine gTop (y := (nI (571 * k))) (pk_mul _ _) ?_
  refine lv_iadd hx hb dL_drawn_21 ?_
  refine lv_iload_n hx hb dL_drawn_22 rfl (lv_at hl 2 rfl) ?_
  refine gCS (As := [.int ((x1 >>> ((nI ((k / 24) % 8)) &&& 31)) + (nI (571 * k))), .int (nI n)]) (rest := []) (wr := []) hE (c_below l G ((x1 >>> ((nI ((k / 24) % 8)) &&& 31)) + (nI (571 * k))) n (by omega) (by omega)) (va_cwS 2 hts gL_drawn_L_below rfl rfl rfl (by decide +kernel) ⟨Nat.le_of_ble_eq_true rfl, Nat.le_of_ble_eq_true rfl⟩) ⟨hx, hb, hml, hown, hts⟩ hK hP hD hS hA [] [] rfl rfl (by decide) (by decide) (by decide) rfl hl rfl (Nat.le_of_ble_eq_true rfl) dL_drawn_23 ⟨Nat.le_of_ble_eq_true rfl, Nat.le_of_ble_eq_true rfl⟩ (fun r2 H locs hu hP hD hS => ?_)
  have hr2 : r2 < n := hu
  have hP : va_P (gD G) vwCl [] H := hP
  have hD : va_D A [] := hD
  refine W.eq (g2 := F0 m9 26 ls [.int (nI r2)]) rfl ?_
  exact gIret (hQ := hQ) hx hb hr hlocks hP hD hS r2 hr2 (by rfl) [] (by decide) (by rfl) (Nat.le_of_ble_eq_true rfl) (Nat.le_of_ble_eq_true rfl) dL_drawn_26
