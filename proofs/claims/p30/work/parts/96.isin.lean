def rm_c_isIn : Room := { frames := 4, cells := 102, slots := 900, locals := 97 }
set_option maxHeartbeats 4000000 in
set_option maxRecDepth 100000 in
/-- c_isIn -/
theorem c_isIn (l : Launch) (G : gG) (h : Nat) (mo : Nat) (q : Nat) (n : Nat) (N : Nat) (fl : Nat → Option Nat) (v : Nat → Nat) (x : Nat) (hn : n ≤ 48) (hnN : n ≤ N) (hN : N ≤ 300) (hfl : ∀ i, i < n → fl i = some (gI G (v i + 128))) (hv : ∀ i, i < n → v i < 64) (hm : x < 64) : gMet (S := Nat) l G yL_isIn wsL_isIn rm_c_isIn [.ref h, .int (nI x)] [(h, .inr (2, [.int (nI mo), .ref q, .int (nI n)])), (q, .inl (G.2.2.1 4, N, .inr (.inr (.inr (.inr fl)))))] (fun z => z ≤ 1 ∧ (z = 1 → Sp 1000003 (fun u => ∃ i, i < n ∧ u = bv (v i)) (bv x))) (fun z => some (.int (nI z))) (fun _ => [(h, .inr (2, [.int (nI mo), .ref q, .int (nI n)])), (q, .inl (G.2.2.1 4, N, .inr (.inr (.inr (.inr fl)))))]) := by
  refine gOf (maxL := 2) (ret := (some .boolean)) (cc := cL_isIn) (by decide) rfl (Nat.le_of_ble_eq_true rfl) ?_
  intro P9 e9 s m9 args below meth c9 A ls H locs Q hQ hx hb hml hr hown hts hlocks hin hK hP hD hS hA hE hl
  have hown : s.vm.findClass RL = some m9.cls := hown
  have hl : lv_has ls 2 [(0, .ref h), (1, .int (nI x))] := hl
  refine lv_aload_n hx hb dL_isIn_0 rfl (lv_at hl 0 rfl) ?_
  refine lv_iconst (v := (-1)) hx hb dL_isIn_1 (by decide) ?_
  refine gCS (As := [.ref h, .int (-1)]) (rest := []) (wr := []) hE (c_rank_n l G h mo q n N fl v (by omega) (by omega) (by omega) hfl hv) (va_cwS 2 hts gL_isIn_L_rank rfl rfl rfl (by decide +kernel) ⟨Nat.le_of_ble_eq_true rfl, Nat.le_of_ble_eq_true rfl⟩) ⟨hx, hb, hml, hown, hts⟩ hK hP hD hS hA [0, 1] [] rfl rfl (by decide) (by decide) (by decide) rfl hl rfl (Nat.le_of_ble_eq_true rfl) dL_isIn_2 ⟨Nat.le_of_ble_eq_true rfl, Nat.le_of_ble_eq_true rfl⟩ (fun rk1 H locs hu hP hD hS => ?_)
  have hrk1 : cnt (ld 1000003 (fun u => ∃ i, i < n ∧ u = bv (v i))) 8 rk1 ∧ rk1 ≤ 50 := hu
  have hP : va_P (gD G) vwCl [(h, .inr (2, [.int (nI mo), .ref q, .int (nI n)])), (q, .inl (G.2.2.1 4, N, .inr (.inr (.inr (.inr fl)))))] H := hP
  have hD : va_D A [(h, .inr (2, [.int (nI mo), .ref q, .int (nI n)])), (q, .inl (G.2.2.1 4, N, .inr (.inr (.inr (.inr fl)))))] := hD
  refine W.widen (k := 51) (n := 450) (Nat.le_of_ble_eq_true rfl) (Nat.le_of_ble_eq_true rfl) ?_
  refine W.eq (g2 := F0 m9 5 ls [.int (nI rk1)]) rfl ?_
  refine lv_aload_n hx hb dL_isIn_5 rfl (lv_at hl 0 rfl) ?_
  refine lv_iload_n hx hb dL_isIn_6 rfl (lv_at hl 1 rfl) ?_
  refine gCS (As := [.ref h, .int (nI x)]) (rest := [.int (nI rk1)]) (wr := []) hE (c_rank_m l G h mo q n N fl v x (by omega) (by omega) (by omega) hfl hv hm) (va_cwS 2 hts gL_isIn_L_rank rfl rfl rfl (by decide +kernel) ⟨Nat.le_of_ble_eq_true rfl, Nat.le_of_ble_eq_true rfl⟩) ⟨hx, hb, hml, hown, hts⟩ hK hP hD hS hA [0, 1] [] rfl rfl (by decide) (by decide) (by decide) rfl hl rfl (Nat.le_of_ble_eq_true rfl) dL_isIn_7 ⟨Nat.le_of_ble_eq_true rfl, Nat.le_of_ble_eq_true rfl⟩ (fun rk2 H locs hu hP hD hS => ?_)
  have hrk2 : cnt (ld 1000003 (fun u => ∃ i, i < (n + 1) ∧ u = bv ((fun i => if i < n then v i else x) i))) 8 rk2 ∧ rk2 ≤ 50 := hu
  have hP : va_P (gD G) vwCl [(h, .inr (2, [.int (nI mo), .ref q, .int (nI n)])), (q, .inl (G.2.2.1 4, N, .inr (.inr (.inr (.inr fl)))))] H := hP
  have hD : va_D A [(h, .inr (2, [.int (nI mo), .ref q, .int (nI n)])), (q, .inl (G.2.2.1 4, N, .inr (.inr (.inr (.inr fl)))))] := hD
  refine W.widen (k := 102) (n := 900) (Nat.le_of_ble_eq_true rfl) (Nat.le_of_ble_eq_true rfl) ?_
  refine W.eq (g2 := F0 m9 10 ls [.int (nI rk2), .int (nI rk1)]) rfl ?_
  refine gN_ne (tgt := 17) hx hb dL_isIn_10 (by decide) (by omega) (by omega) (fun c3 => ?_) (fun c3 => ?_)
  · refine lv_iconst (v := nI 0) hx hb dL_isIn_17 (by decide) ?_
    exact gZret (hQ := hQ) hx hb hr hlocks (by first | exact Or.inl rfl | exact Or.inr rfl) hP hD hS 0 ⟨Nat.zero_le 1, (fun z9 => absurd z9 (by decide))⟩ (by rfl) [0, 1] (by decide) (by rfl) (Nat.le_of_ble_eq_true rfl) (Nat.le_of_ble_eq_true rfl) dL_isIn_18
  · refine lv_iconst (v := nI 1) hx hb dL_isIn_13 (by decide) ?_
    refine lv_goto (tgt := 18) hx hb dL_isIn_14 (by decide) ?_
    have er9 := hrk2.1
    rw [← c3] at er9
    exact gZret (hQ := hQ) hx hb hr hlocks (by first | exact Or.inl rfl | exact Or.inr rfl) hP hD hS 1 ⟨Nat.le_refl 1, (fun _ => rank_eq (fun u ⟨i, hi, e⟩ => ⟨i, by omega, by rw [e]; exact congrArg bv (if_pos hi).symm⟩) ⟨n, by omega, congrArg bv (if_neg (Nat.lt_irrefl n)).symm⟩ hrk1.1 er9)⟩ (by rfl) [0, 1] (by decide) (by rfl) (Nat.le_of_ble_eq_true rfl) (Nat.le_of_ble_eq_true rfl) dL_isIn_18

def rm_c_isIn0 : Room := { frames := 2, cells := 102, slots := 900, locals := 63 }
set_option maxHeartbeats 4000000 in
set_option maxRecDepth 100000 in
/-- c_isIn0 -/
theorem c_isIn0 (l : Launch) (G : gG) (h : Nat) (mo : Nat) (x : Nat) (hm : x < 64) : gMet (S := Nat) l G yL_isIn wsL_isIn rm_c_isIn0 [.ref h, .int (nI x)] [(h, .inr (2, [.int (nI mo), .ref (G.2.2.2 0), .int (nI 0)]))] (fun z => z ≤ 1 ∧ (z = 1 → Sp 1000003 (fun u => ∃ i, i < 0 ∧ u = bv ((fun _ => 0) i)) (bv x))) (fun z => some (.int (nI z))) (fun _ => [(h, .inr (2, [.int (nI mo), .ref (G.2.2.2 0), .int (nI 0)]))]) := by
  refine gOf (maxL := 2) (ret := (some .boolean)) (cc := cL_isIn) (by decide) rfl (Nat.le_of_ble_eq_true rfl) ?_
  intro P9 e9 s m9 args below meth c9 A ls H locs Q hQ hx hb hml hr hown hts hlocks hin hK hP hD hS hA hE hl
  have hown : s.vm.findClass RL = some m9.cls := hown
  have hl : lv_has ls 2 [(0, .ref h), (1, .int (nI x))] := hl
  refine lv_aload_n hx hb dL_isIn_0 rfl (lv_at hl 0 rfl) ?_
  refine lv_iconst (v := (-1)) hx hb dL_isIn_1 (by decide) ?_
  refine gCS (As := [.ref h, .int (-1)]) (rest := []) (wr := []) hE (c_rank_0 l G h mo) (va_cwS 2 hts gL_isIn_L_rank rfl rfl rfl (by decide +kernel) ⟨Nat.le_of_ble_eq_true rfl, Nat.le_of_ble_eq_true rfl⟩) ⟨hx, hb, hml, hown, hts⟩ hK hP hD hS hA [0] [] rfl rfl (by decide) (by decide) (by decide) rfl hl rfl (Nat.le_of_ble_eq_true rfl) dL_isIn_2 ⟨Nat.le_of_ble_eq_true rfl, Nat.le_of_ble_eq_true rfl⟩ (fun rk1 H locs hu hP hD hS => ?_)
  have hrk1 : cnt (ld 1000003 (fun u => ∃ i, i < 0 ∧ u = bv ((fun _ => 0) i))) 8 rk1 ∧ rk1 ≤ 50 := hu
  have hP : va_P (gD G) vwCl [(h, .inr (2, [.int (nI mo), .ref (G.2.2.2 0), .int (nI 0)]))] H := hP
  have hD : va_D A [(h, .inr (2, [.int (nI mo), .ref (G.2.2.2 0), .int (nI 0)]))] := hD
  refine W.widen (k := 51) (n := 450) (Nat.le_of_ble_eq_true rfl) (Nat.le_of_ble_eq_true rfl) ?_
  refine W.eq (g2 := F0 m9 5 ls [.int (nI rk1)]) rfl ?_
  refine lv_aload_n hx hb dL_isIn_5 rfl (lv_at hl 0 rfl) ?_
  refine lv_iload_n hx hb dL_isIn_6 rfl (lv_at hl 1 rfl) ?_
  refine gCS (As := [.ref h, .int (nI x)]) (rest := [.int (nI rk1)]) (wr := []) hE (c_rank_1 l G h mo x hm) (va_cwS 2 hts gL_isIn_L_rank rfl rfl rfl (by decide +kernel) ⟨Nat.le_of_ble_eq_true rfl, Nat.le_of_ble_eq_true rfl⟩) ⟨hx, hb, hml, hown, hts⟩ hK hP hD hS hA [0] [] rfl rfl (by decide) (by decide) (by decide) rfl hl rfl (Nat.le_of_ble_eq_true rfl) dL_isIn_7 ⟨Nat.le_of_ble_eq_true rfl, Nat.le_of_ble_eq_true rfl⟩ (fun rk2 H locs hu hP hD hS => ?_)
  have hrk2 : cnt (ld 1000003 (fun u => ∃ i, i < 1 ∧ u = bv ((fun _ => x) i))) 8 rk2 ∧ rk2 ≤ 50 := hu
  have hP : va_P (gD G) vwCl [(h, .inr (2, [.int (nI mo), .ref (G.2.2.2 0), .int (nI 0)]))] H := hP
  have hD : va_D A [(h, .inr (2, [.int (nI mo), .ref (G.2.2.2 0), .int (nI 0)]))] := hD
  refine W.widen (k := 102) (n := 900) (Nat.le_of_ble_eq_true rfl) (Nat.le_of_ble_eq_true rfl) ?_
  refine W.eq (g2 := F0 m9 10 ls [.int (nI rk2), .int (nI rk1)]) rfl ?_
  refine gN_ne (tgt := 17) hx hb dL_isIn_10 (by decide) (by omega) (by omega) (fun c3 => ?_) (fun c3 => ?_)
  · refine lv_iconst (v := nI 0) hx hb dL_isIn_17 (by decide) ?_
    exact gZret (hQ := hQ) hx hb hr hlocks (by first | exact Or.inl rfl | exact Or.inr rfl) hP hD hS 0 ⟨Nat.zero_le 1, (fun z9 => absurd z9 (by decide))⟩ (by rfl) [0] (by decide) (by rfl) (Nat.le_of_ble_eq_true rfl) (Nat.le_of_ble_eq_true rfl) dL_isIn_18
  · refine lv_iconst (v := nI 1) hx hb dL_isIn_13 (by decide) ?_
    refine lv_goto (tgt := 18) hx hb dL_isIn_14 (by decide) ?_
    have er9 := hrk2.1
    rw [← c3] at er9
    exact gZret (hQ := hQ) hx hb hr hlocks (by first | exact Or.inl rfl | exact Or.inr rfl) hP hD hS 1 ⟨Nat.le_refl 1, (fun _ => rank_eq (fun u ⟨i, hi, e⟩ => ⟨i, by omega, by rw [e]; exact absurd hi (by omega)⟩) ⟨0, by omega, rfl⟩ hrk1.1 er9)⟩ (by rfl) [0] (by decide) (by rfl) (Nat.le_of_ble_eq_true rfl) (Nat.le_of_ble_eq_true rfl) dL_isIn_18
