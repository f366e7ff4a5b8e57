set_option maxHeartbeats 8000000 in
set_option maxRecDepth 100000 in
/-- the entry: two offices, six sources and people, four askers -/
theorem lw_start {P9 : Program} {l : Launch} {e9 : Env} {s : State} {m9 : MethodId} {args : Array Value} {below : List Frame} {meth : Method} {c9 : Code} {Q : State → Prop} {G : gG} {A : Nat → Prop} (hX : lX P9 s m9 c9 args G A) (c0 t0 : Nat) (hc0 : c0 = 100) (ht0 : t0 = 2000) (K : ∀ (am ab : Nat → Nat) (ci pe to : Nat), HD P9 l e9 s m9 args below meth c9 Q G A am ab ci pe to 130 0 0 c0 t0) (hP : va_P (gD G) vwCl ([] : va_W) s.heap) (hD : va_D A ([] : va_W)) (hS : va_S A s.heap s.heap []) : ∀ ls : Array Slot, lv_has ls 16 [(0, .ref (G.2.2.2 259))] → W P9 l e9 room_1 s m9 args below meth c9 s.heap [] 0 0 Q (F0 m9 0 ls []) := by
  obtain ⟨hx, hb, hml, hown, hts, hK, hA, hE, hR⟩ := id hX
  intro ls hl
  have hP : va_P (gD G) vwCl (([] : va_W) ++ ([] : va_W)) s.heap := hP
  have hD : va_D A (([] : va_W) ++ ([] : va_W)) := hD
  refine va_new (ci := 9) (fs := [.null, .null, .null, .null, .int (nI 0)]) (C := RX6) (T := TX6) (N := 5) hx hb hts (by decide +kernel) tyX6 tyX6_ok hown (hts (.classLink RL 48 RX6) (by decide +kernel)) (hts (.instantiable RX6 5) (by decide +kernel)) (hts (.initialized RX6) (by decide +kernel)) hK hP hD hS hA rfl (fun j hj => by rcases (show j = 0 ∨ j = 1 ∨ j = 2 ∨ j = 3 ∨ j = 4 by omega) with rfl | rfl | rfl | rfl | rfl <;> rfl) (Nat.le_trans (show 0 + 1 ≤ 500000 by omega) hR.1) (Nat.le_trans (show 0 + 5 ≤ 6000000 by omega) hR.2) dL_law_0 (fun q21 H hP hD hS => ?_)
  have hP := va_P.swap hP
  have hD := va_D.swap hD
  have hP : va_P (gD G) vwCl ([(q21, .inr (9, [.null, .null, .null, .null, .int (nI 0)]))] ++ ([] : va_W)) H := hP
  have hD : va_D A ([(q21, .inr (9, [.null, .null, .null, .null, .int (nI 0)]))] ++ ([] : va_W)) := hD
  refine W.widen (k := (0 + 1)) (n := (0 + 5)) (by show 0 + 1 ≤ (0 + 1); omega) (by show 0 + 5 ≤ (0 + 5); omega) ?_
  refine lv_dup hx hb dL_law_3 rfl ?_
  refine gCIJ (As := []) (rest := [.ref q21]) hE (k_new l G q21) (cwI 0 hts ggL_law_X6_init rfl rfl rfl (hts (.initialized RX6) (by decide +kernel)) (hts (.methodLink RL 50 yX6_init) (by decide +kernel)) (hts (.instanceMethod yX6_init) (by decide +kernel)) rfl (by decide +kernel) ⟨Nat.le_of_ble_eq_true rfl, Nat.le_of_ble_eq_true rfl⟩) ⟨hx, hb, hml, hown, hts⟩ hK hP hD hS hA (gJb [] [(q21, .inr (9, [.null, .null, .null, .null, .int (nI 0)]))] ([] : va_W)) rfl hl rfl (Nat.le_of_ble_eq_true rfl) dL_law_4 ⟨Nat.le_trans (show (0 + 1) + 30 ≤ 500000 by omega) hR.1, Nat.le_trans (show (0 + 5) + 444 ≤ 6000000 by omega) hR.2⟩ (fun a22 H locs hu hP hD hS => ?_)
  have ha22 : a22 0 = q21 := hu
  have hP : va_P (gD G) vwCl ([] ++ (dW G a22 z0)) H := hP
  have hD : va_D A ([] ++ (dW G a22 z0)) := hD
  refine W.widen (k := (0 + 31)) (n := (0 + 449)) (by show (0 + 1) + 30 ≤ (0 + 31); omega) (by show (0 + 5) + 444 ≤ (0 + 449); omega) ?_
  refine W.eq (g2 := F0 m9 7 ls [.ref q21]) rfl ?_
  refine lv_astore_n (lv' := [(1, .ref q21), (0, .ref (G.2.2.2 259))]) hx hb dL_law_7 rfl hl (by decide) rfl (fun ls hl => ?_)
  refine va_new (ci := 9) (fs := [.null, .null, .null, .null, .int (nI 0)]) (C := RX6) (T := TX6) (N := 5) hx hb hts (by decide +kernel) tyX6 tyX6_ok hown (hts (.classLink RL 48 RX6) (by decide +kernel)) (hts (.instantiable RX6 5) (by decide +kernel)) (hts (.initialized RX6) (by decide +kernel)) hK hP hD hS hA rfl (fun j hj => by rcases (show j = 0 ∨ j = 1 ∨ j = 2 ∨ j = 3 ∨ j = 4 by omega) with rfl | rfl | rfl | rfl | rfl <;> rfl) (Nat.le_trans (show (0 + 31) + 1 ≤ 500000 by omega) hR.1) (Nat.le_trans (show (0 + 449) + 5 ≤ 6000000 by omega) hR.2) dL_law_8 (fun q23 H hP hD hS => ?_)
  have hP := va_P.swap hP
  have hD := va_D.swap hD
  have hP : va_P (gD G) vwCl ([(q23, .inr (9, [.null, .null, .null, .null, .int (nI 0)]))] ++ (dW G a22 z0)) H := hP
  have hD : va_D A ([(q23, .inr (9, [.null, .null, .null, .null, .int (nI 0)]))] ++ (dW G a22 z0)) := hD
  refine W.widen (k := (0 + 32)) (n := (0 + 454)) (by show (0 + 31) + 1 ≤ (0 + 32); omega) (by show (0 + 449) + 5 ≤ (0 + 454); omega) ?_
  refine lv_dup hx hb dL_law_11 rfl ?_
  refine gCIJ (As := []) (rest := [.ref q23]) hE (k_new l G q23) (cwI 0 hts ggL_law_X6_init rfl rfl rfl (hts (.initialized RX6) (by decide +kernel)) (hts (.methodLink RL 50 yX6_init) (by decide +kernel)) (hts (.instanceMethod yX6_init) (by decide +kernel)) rfl (by decide +kernel) ⟨Nat.le_of_ble_eq_true rfl, Nat.le_of_ble_eq_true rfl⟩) ⟨hx, hb, hml, hown, hts⟩ hK hP hD hS hA (gJb [] [(q23, .inr (9, [.null, .null, .null, .null, .int (nI 0)]))] (dW G a22 z0)) rfl hl rfl (Nat.le_of_ble_eq_true rfl) dL_law_12 ⟨Nat.le_trans (show (0 + 32) + 30 ≤ 500000 by omega) hR.1, Nat.le_trans (show (0 + 454) + 444 ≤ 6000000 by omega) hR.2⟩ (fun a24 H locs hu hP hD hS => ?_)
  have ha24 : a24 0 = q23 := hu
  have hP : va_P (gD G) vwCl ([] ++ (dW G a24 z0 ++ (dW G a22 z0))) H := hP
  have hD : va_D A ([] ++ (dW G a24 z0 ++ (dW G a22 z0))) := hD
  refine W.widen (k := (0 + 62)) (n := (0 + 898)) (by show (0 + 32) + 30 ≤ (0 + 62); omega) (by show (0 + 454) + 444 ≤ (0 + 898); omega) ?_
  refine W.eq (g2 := F0 m9 15 ls [.ref q23]) rfl ?_
  refine lv_astore_n (lv' := [(2, .ref q23), (1, .ref q21), (0, .ref (G.2.2.2 259))]) hx hb dL_law_15 rfl hl (by decide) rfl (fun ls hl => ?_)
  rw [← ha22, ← ha24] at hl
  have hl : lv_has ls 16 [(2, .ref (a24 0)), (1, .ref (a22 0)), (0, .ref (G.2.2.2 259))] := hl
  refine lv_iconst (v := nI 0) hx hb dL_law_16 (by decide) ?_
  refine lv_istore_n (lv' := [(3, .int (nI 0)), (2, .ref (a24 0)), (1, .ref (a22 0)), (0, .ref (G.2.2.2 259))]) hx hb dL_law_17 rfl hl (by decide) rfl (fun ls hl => ?_)
  suffices L25 : ∀ (rmk k : Nat) (zm : DSt) (zb : DSt), k + rmk = 6 → (dI zm k k 0) → (dI zb k k 0) → (fc zm = fc z0) → (fc zb = fc z0) → ∀ (H : Heap) (locs : List Loc), va_P (gD G) vwCl ([] ++ (dW G a24 zb ++ (dW G a22 zm))) H → va_D A ([] ++ (dW G a24 zb ++ (dW G a22 zm))) → va_S A s.heap H locs → ∀ ls : Array Slot, lv_has ls 16 [(0, .ref (G.2.2.2 259)), (1, .ref (a22 0)), (2, .ref (a24 0)), (3, .int (nI k))] → W P9 l e9 room_1 s m9 args below meth c9 H locs 62 898 Q (F0 m9 18 ls []) by
    refine W.widen (k := 62) (n := 898) (by omega) (by omega) ?_
    exact L25 _ 0 z0 z0 (Nat.add_sub_cancel' (by omega)) dI_0 dI_0 rfl rfl _ _ (gtP hP [] rfl) (gtD hD [] (by decide) rfl) hS _ (lv_sub hl [3, 2, 1, 0] rfl)
  intro rmk
  induction rmk with
  | zero =>
    intro k zm zb hik hIm hIb hfm hfb H locs hP hD hS ls hl
    refine lv_iload_n hx hb dL_law_18 rfl (lv_at hl 3 rfl) ?_
    refine lv_bipush (v := nI 6) hx hb dL_law_19 (by decide) ?_
    refine gN_ge (tgt := 59) hx hb dL_law_21 (by decide) (by omega) (by decide) (fun c26 => ?_) (fun c26 => absurd c26 (by omega))
    refine lv_iconst (v := nI 4) hx hb dL_law_59 (by decide) ?_
    refine gN_newa (n := 4) hx hb (hts (.arrayClass .int) (by decide +kernel)) hK hP hD hS hA (by decide) (by decide) (Nat.le_trans (show 62 + 1 ≤ 500000 by omega) hR.1) (Nat.le_trans (show 898 + 4 ≤ 6000000 by omega) hR.2) dL_law_60 (fun q27 H hP hD hS => ?_)
    have hP := va_P.swap hP
    have hD := va_D.swap hD
    have hP : va_P (gD G) vwCl ([(q27, .inl (G.2.2.1 0, 4, .inl (nA (fun _ => 0))))] ++ (dW G a24 zb ++ (dW G a22 zm))) H := hP
    have hD : va_D A ([(q27, .inl (G.2.2.1 0, 4, .inl (nA (fun _ => 0))))] ++ (dW G a24 zb ++ (dW G a22 zm))) := hD
    refine W.widen (k := (62 + 1)) (n := (898 + 4)) (by show 62 + 1 ≤ (62 + 1); omega) (by show 898 + 4 ≤ (898 + 4); omega) ?_
    refine lv_dup hx hb dL_law_62 rfl ?_
    refine lv_iconst (v := nI 0) hx hb dL_law_63 (by decide) ?_
    refine lv_iconst (v := nI 1) hx hb dL_law_64 (by decide) ?_
    refine gN_iast hx hb hK hP hD hS 0 0 rfl rfl (by omega) (by decide) dL_law_65 (fun H locs hP hD hS => ?_)
    have hP : va_P (gD G) vwCl ([(q27, .inl (G.2.2.1 0, 4, .inl (nA (va_up (fun _ => 0) 0 1))))] ++ (dW G a24 zb ++ (dW G a22 zm))) H := hP
    have hD : va_D A ([(q27, .inl (G.2.2.1 0, 4, .inl (nA (va_up (fun _ => 0) 0 1))))] ++ (dW G a24 zb ++ (dW G a22 zm))) := hD
    refine lv_dup hx hb dL_law_66 rfl ?_
    refine lv_iconst (v := nI 1) hx hb dL_law_67 (by decide) ?_
    refine lv_iconst (v := nI 2) hx hb dL_law_68 (by decide) ?_
    refine gN_iast hx hb hK hP hD hS 0 0 rfl rfl (by omega) (by decide) dL_law_69 (fun H locs hP hD hS => ?_)
    have hP : va_P (gD G) vwCl ([(q27, .inl (G.2.2.1 0, 4, .inl (nA (va_up (va_up (fun _ => 0) 0 1) 1 2))))] ++ (dW G a24 zb ++ (dW G a22 zm))) H := hP
    have hD : va_D A ([(q27, .inl (G.2.2.1 0, 4, .inl (nA (va_up (va_up (fun _ => 0) 0 1) 1 2))))] ++ (dW G a24 zb ++ (dW G a22 zm))) := hD
    refine lv_dup hx hb dL_law_70 rfl ?_
    refine lv_iconst (v := nI 2) hx hb dL_law_71 (by decide) ?_
    refine lv_iconst (v := nI 4) hx hb dL_law_72 (by decide) ?_
    refine gN_iast hx hb hK hP hD hS 0 0 rfl rfl (by omega) (by decide) dL_law_73 (fun H locs hP hD hS => ?_)
    have hP : va_P (gD G) vwCl ([(q27, .inl (G.2.2.1 0, 4, .inl (nA (va_up (va_up (va_up (fun _ => 0) 0 1) 1 2) 2 4))))] ++ (dW G a24 zb ++ (dW G a22 zm))) H := hP
    have hD : va_D A ([(q27, .inl (G.2.2.1 0, 4, .inl (nA (va_up (va_up (va_up (fun _ => 0) 0 1) 1 2) 2 4))))] ++ (dW G a24 zb ++ (dW G a22 zm))) := hD
    refine lv_dup hx hb dL_law_74 rfl ?_
    refine lv_iconst (v := nI 3) hx hb dL_law_75 (by decide) ?_
    refine lv_bipush (v := nI 8) hx hb dL_law_76 (by decide) ?_
    refine gN_iast hx hb hK hP hD hS 0 0 rfl rfl (by omega) (by decide) dL_law_78 (fun H locs hP hD hS => ?_)
    have hP : va_P (gD G) vwCl ([(q27, .inl (G.2.2.1 0, 4, .inl (nA (va_up (va_up (va_up (va_up (fun _ => 0) 0 1) 1 2) 2 4) 3 8))))] ++ (dW G a24 zb ++ (dW G a22 zm))) H := hP
    have hD : va_D A ([(q27, .inl (G.2.2.1 0, 4, .inl (nA (va_up (va_up (va_up (va_up (fun _ => 0) 0 1) 1 2) 2 4) 3 8))))] ++ (dW G a24 zb ++ (dW G a22 zm))) := hD
    refine lv_astore_n (lv' := [(3, .ref q27), (0, .ref (G.2.2.2 259)), (1, .ref (a22 0)), (2, .ref (a24 0))]) hx hb dL_law_79 rfl hl (by decide) rfl (fun ls hl => ?_)
    have hk6 : k = 6 := by omega
    have hIm0 : dI zm 6 6 0 := hk6 ▸ hIm
    have hIb0 : dI zb 6 6 0 := hk6 ▸ hIb
    have hfm0 := hfm
    have hfb0 := hfb
    refine lv_iconst (v := nI 0) hx hb dL_law_80 (by decide) ?_
    refine lv_istore (lv' := [(4, .int (nI 0)), (3, .ref q27), (0, .ref (G.2.2.2 259)), (1, .ref (a22 0)), (2, .ref (a24 0))]) hx hb dL_law_81 hl (by decide) rfl (fun ls hl => ?_)
    suffices L28 : ∀ (rma k : Nat) (zm2 : DSt) (zb2 : DSt), k + rma = 4 → (dI zm2 6 6 k) → (dI zb2 6 6 k) → (fc zm2 = fc z0) → (fc zb2 = fc z0) → ∀ (H : Heap) (locs : List Loc), va_P (gD G) vwCl ([(q27, .inl (G.2.2.1 0, 4, .inl (nA (va_up (va_up (va_up (va_up (fun _ => 0) 0 1) 1 2) 2 4) 3 8))))] ++ (dW G a24 zb2 ++ (dW G a22 zm2))) H → va_D A ([(q27, .inl (G.2.2.1 0, 4, .inl (nA (va_up (va_up (va_up (va_up (fun _ => 0) 0 1) 1 2) 2 4) 3 8))))] ++ (dW G a24 zb2 ++ (dW G a22 zm2))) → va_S A s.heap H locs → ∀ ls : Array Slot, lv_has ls 16 [(0, .ref (G.2.2.2 259)), (1, .ref (a22 0)), (2, .ref (a24 0)), (3, .ref q27), (4, .int (nI k))] → W P9 l e9 room_1 s m9 args below meth c9 H locs 63 902 Q (F0 m9 83 ls []) by
      refine W.widen (k := 63) (n := 902) (by omega) (by omega) ?_
      exact L28 _ 0 zm zb (Nat.add_sub_cancel' (by omega)) hIm0 hIb0 hfm0 hfb0 _ _ (gtP hP [0] rfl) (gtD hD [0] (by decide) rfl) hS _ (lv_sub hl [2, 3, 4, 1, 0] rfl)
    intro rma
    induction rma with
    | zero =>
      intro k zm2 zb2 hia hIm hIb hfm hfb H locs hP hD hS ls hl
      refine lv_iload hx hb dL_law_83 (lv_at hl 4 rfl) ?_
      refine lv_iconst (v := nI 4) hx hb dL_law_85 (by decide) ?_
      refine gN_ge (tgt := 105) hx hb dL_law_86 (by decide) (by omega) (by decide) (fun c29 => ?_) (fun c29 => absurd c29 (by omega))
      have hk4 : k = 4 := by omega
      have hIm4 : dI zm2 6 6 4 := hk4 ▸ hIm
      have hIb4 : dI zb2 6 6 4 := hk4 ▸ hIb
      refine va_new (ci := 2) (fs := [.int (nI 0), .null, .int (nI 0)]) (C := RJx4a65c) (T := TJx4a65c) (N := 3) hx hb hts (by decide +kernel) tyJx4a65c tyJx4a65c_ok hown (hts (.classLink RL 65 RJx4a65c) (by decide +kernel)) (hts (.instantiable RJx4a65c 3) (by decide +kernel)) (hts (.initialized RJx4a65c) (by decide +kernel)) hK hP hD hS hA rfl (fun j hj => by rcases (show j = 0 ∨ j = 1 ∨ j = 2 by omega) with rfl | rfl | rfl <;> rfl) (Nat.le_trans (show 63 + 1 ≤ 500000 by omega) hR.1) (Nat.le_trans (show 902 + 3 ≤ 6000000 by omega) hR.2) dL_law_105 (fun q30 H hP hD hS => ?_)
      have hP := va_P.swap hP
      have hD := va_D.swap hD
      have hP : va_P (gD G) vwCl ([(q27, .inl (G.2.2.1 0, 4, .inl (nA (va_up (va_up (va_up (va_up (fun _ => 0) 0 1) 1 2) 2 4) 3 8)))), (q30, .inr (2, [.int (nI 0), .null, .int (nI 0)]))] ++ (dW G a24 zb2 ++ (dW G a22 zm2))) H := hP
      have hD : va_D A ([(q27, .inl (G.2.2.1 0, 4, .inl (nA (va_up (va_up (va_up (va_up (fun _ => 0) 0 1) 1 2) 2 4) 3 8)))), (q30, .inr (2, [.int (nI 0), .null, .int (nI 0)]))] ++ (dW G a24 zb2 ++ (dW G a22 zm2))) := hD
      refine W.widen (k := (63 + 1)) (n := (902 + 3)) (by show 63 + 1 ≤ (63 + 1); omega) (by show 902 + 3 ≤ (902 + 3); omega) ?_
      refine lv_dup hx hb dL_law_108 rfl ?_
      refine gCIJ (As := []) (rest := [.ref q30]) hE (k_L_init l G q30) (cwI 0 hts ggL_law_Jx4a65c_init_da8c8 rfl rfl rfl (hts (.initialized RJx4a65c) (by decide +kernel)) (hts (.methodLink RL 67 yJx4a65c_init_da8c8) (by decide +kernel)) (hts (.instanceMethod yJx4a65c_init_da8c8) (by decide +kernel)) rfl (by decide +kernel) ⟨Nat.le_of_ble_eq_true rfl, Nat.le_of_ble_eq_true rfl⟩) ⟨hx, hb, hml, hown, hts⟩ hK hP hD hS hA (gJb [(q27, .inl (G.2.2.1 0, 4, .inl (nA (va_up (va_up (va_up (va_up (fun _ => 0) 0 1) 1 2) 2 4) 3 8))))] [(q30, .inr (2, [.int (nI 0), .null, .int (nI 0)]))] (dW G a24 zb2 ++ (dW G a22 zm2))) rfl hl rfl (Nat.le_of_ble_eq_true rfl) dL_law_109 ⟨Nat.le_trans (show (63 + 1) + 0 ≤ 500000 by omega) hR.1, Nat.le_trans (show (902 + 3) + 0 ≤ 6000000 by omega) hR.2⟩ (fun u9 H locs hu hP hD hS => ?_)
      have hP : va_P (gD G) vwCl ([(q27, .inl (G.2.2.1 0, 4, .inl (nA (va_up (va_up (va_up (va_up (fun _ => 0) 0 1) 1 2) 2 4) 3 8))))] ++ (tlW G q30 0 0 0 10 (fun _ => none) ++ (dW G a24 zb2 ++ (dW G a22 zm2)))) H := hP
      have hD : va_D A ([(q27, .inl (G.2.2.1 0, 4, .inl (nA (va_up (va_up (va_up (va_up (fun _ => 0) 0 1) 1 2) 2 4) 3 8))))] ++ (tlW G q30 0 0 0 10 (fun _ => none) ++ (dW G a24 zb2 ++ (dW G a22 zm2)))) := hD
      refine W.widen (k := (63 + 1)) (n := (902 + 3)) (by show (63 + 1) + 0 ≤ (63 + 1); omega) (by show (902 + 3) + 0 ≤ (902 + 3); omega) ?_
      refine W.eq (g2 := F0 m9 112 ls [.ref q30]) rfl ?_
      refine lv_astore (lv' := [(4, .ref q30), (0, .ref (G.2.2.2 259)), (1, .ref (a22 0)), (2, .ref (a24 0)), (3, .ref q27)]) hx hb dL_law_112 hl (by decide) rfl (fun ls hl => ?_)
      refine lv_bipush (v := nI 8) hx hb dL_law_114 (by decide) ?_
      refine gA_new (n := 8) hx hb hown hE (hts (.classLink RL 68 "[I") (by decide +kernel)) hK hP hD hS hA (by decide) (Nat.le_trans (show (63 + 1) + 1 ≤ 500000 by omega) hR.1) (Nat.le_trans (show (902 + 3) + 8 ≤ 6000000 by omega) hR.2) dL_law_116 (fun q31 H hP hD hS => ?_)
      have hP := va_P.swap hP
      have hD := va_D.swap hD
      have hP : va_P (gD G) vwCl ([(q27, .inl (G.2.2.1 0, 4, .inl (nA (va_up (va_up (va_up (va_up (fun _ => 0) 0 1) 1 2) 2 4) 3 8)))), (q31, .inl (G.2.2.1 1, 8, .inr (.inr (.inr (.inr (fun _ => none))))))] ++ (tlW G q30 0 0 0 10 (fun _ => none) ++ (dW G a24 zb2 ++ (dW G a22 zm2)))) H := hP
      have hD : va_D A ([(q27, .inl (G.2.2.1 0, 4, .inl (nA (va_up (va_up (va_up (va_up (fun _ => 0) 0 1) 1 2) 2 4) 3 8)))), (q31, .inl (G.2.2.1 1, 8, .inr (.inr (.inr (.inr (fun _ => none))))))] ++ (tlW G q30 0 0 0 10 (fun _ => none) ++ (dW G a24 zb2 ++ (dW G a22 zm2)))) := hD
      refine W.widen (k := (63 + 2)) (n := (902 + 11)) (by show (63 + 1) + 1 ≤ (63 + 2); omega) (by show (902 + 3) + 8 ≤ (902 + 11); omega) ?_
      refine lv_astore (lv' := [(5, .ref q31), (4, .ref q30), (0, .ref (G.2.2.2 259)), (1, .ref (a22 0)), (2, .ref (a24 0)), (3, .ref q27)]) hx hb dL_law_119 hl (by decide) rfl (fun ls hl => ?_)
      refine lv_iconst (v := nI 0) hx hb dL_law_121 (by decide) ?_
      refine lv_istore (lv' := [(6, .int (nI 0)), (5, .ref q31), (4, .ref q30), (0, .ref (G.2.2.2 259)), (1, .ref (a22 0)), (2, .ref (a24 0)), (3, .ref q27)]) hx hb dL_law_122 hl (by decide) rfl (fun ls hl => ?_)
      refine lv_iconst (v := nI 0) hx hb dL_law_124 (by decide) ?_
      refine lv_istore (lv' := [(7, .int (nI 0)), (6, .int (nI 0)), (5, .ref q31), (4, .ref q30), (0, .ref (G.2.2.2 259)), (1, .ref (a22 0)), (2, .ref (a24 0)), (3, .ref q27)]) hx hb dL_law_125 hl (by decide) rfl (fun ls hl => ?_)
      refine lv_iconst (v := nI 0) hx hb dL_law_127 (by decide) ?_
      refine lv_istore (lv' := [(8, .int (nI 0)), (7, .int (nI 0)), (6, .int (nI 0)), (5, .ref q31), (4, .ref q30), (0, .ref (G.2.2.2 259)), (1, .ref (a22 0)), (2, .ref (a24 0)), (3, .ref q27)]) hx hb dL_law_128 hl (by decide) rfl (fun ls hl => ?_)
      have hp9 : List.Perm (([(q27, .inl (G.2.2.1 0, 4, .inl (nA (va_up (va_up (va_up (va_up (fun _ => 0) 0 1) 1 2) 2 4) 3 8)))), (q31, .inl (G.2.2.1 1, 8, .inr (.inr (.inr (.inr (fun _ => none))))))] ++ (tlW G q30 0 0 0 10 (fun _ => none) ++ (dW G a24 zb2 ++ dW G a22 zm2))) : va_W) (([(q27, .inl (G.2.2.1 0, 4, .inl (nA (va_up (va_up (va_up (va_up (fun _ => 0) 0 1) 1 2) 2 4) 3 8)))), (q31, .inl (G.2.2.1 1, 8, .inr (.inr (.inr (.inr (fun _ => none))))))] ++ (dW G a22 zm2 ++ (dW G a24 zb2 ++ (tlW G q30 0 0 0 10 (fun _ => none) ++ ([] : va_W))))) : va_W) := permC fun _ a => by simp only [List.count_append, List.count_nil]; omega
      have hP := vaP_perm hp9 hP
      have hD := vaD_perm hp9 hD
      have hP : va_P (gD G) vwCl ([(q27, .inl (G.2.2.1 0, 4, .inl (nA (va_up (va_up (va_up (va_up (fun _ => 0) 0 1) 1 2) 2 4) 3 8)))), (q31, .inl (G.2.2.1 1, 8, .inr (.inr (.inr (.inr (fun _ => none))))))] ++ (dW G a22 zm2 ++ (dW G a24 zb2 ++ (tlW G q30 0 0 0 10 (fun _ => none) ++ (va_pl ([]) (iF G (fun _ _ => 0))))))) H := hP
      have hD : va_D A ([(q27, .inl (G.2.2.1 0, 4, .inl (nA (va_up (va_up (va_up (va_up (fun _ => 0) 0 1) 1 2) 2 4) 3 8)))), (q31, .inl (G.2.2.1 1, 8, .inr (.inr (.inr (.inr (fun _ => none))))))] ++ (dW G a22 zm2 ++ (dW G a24 zb2 ++ (tlW G q30 0 0 0 10 (fun _ => none) ++ (va_pl ([]) (iF G (fun _ _ => 0))))))) := hD
      have ec : zm2.1 8 = fun _ => 0 := (congrArg (fun q : FC => q.2.2.2.2.2.2.2.1) hfm).trans rfl
      have hC : ∀ k, k < 4 → (va_up (va_up (va_up (va_up (fun _ => 0) 0 1) 1 2) 2 4) 3 8) k = cir (zm2.1 8) k := fun k hk => by
        rw [ec, cir_0 k hk]
        rcases (show k = 0 ∨ k = 1 ∨ k = 2 ∨ k = 3 by omega) with rfl | rfl | rfl | rfl <;> rfl
      refine W.widen (k := c0) (n := t0) (by omega) (by omega) ?_
      exact K a22 a24 q27 q31 q30 zm2 zb2 (va_up (va_up (va_up (va_up (fun _ => 0) 0 1) 1 2) 2 4) 3 8) 0 0 10 (fun _ => none) [] (fun _ _ => 0) (fun _ => none) 0 0 (⟨⟨hIm4, hIb4, hfm.trans hfb.symm⟩, hC, ⟨Nat.le_refl 0, fun z9 => absurd rfl z9, fun i9 hi9 => absurd hi9 (Nat.not_lt_zero i9)⟩, fun k9 hk9 => absurd hk9 (Nat.not_lt_zero k9), (congrArg (fun q : FC => q.2.2.2.2.2.2.1) hfm).symm, (congrArg (fun q : FC => q.2.2.2.1) hfm).symm⟩ : RI 0 zm2 zb2 (va_up (va_up (va_up (va_up (fun _ => 0) 0 1) 1 2) 2 4) 3 8) 0 10 (fun _ => none) [] (fun _ _ => 0) (fun _ => none) 0 0) _ _ (gtP hP [0, 1] rfl) (gtD hD [0, 1] (by decide) rfl) hS _ (lv_sub hl [5, 6, 7, 8, 4, 3, 2, 1, 0] rfl)
    | succ rma iha =>
      intro k zm2 zb2 hia hIm hIb hfm hfb H locs hP hD hS ls hl
      refine lv_iload hx hb dL_law_83 (lv_at hl 4 rfl) ?_
      refine lv_iconst (v := nI 4) hx hb dL_law_85 (by decide) ?_
      refine gN_ge (tgt := 105) hx hb dL_law_86 (by decide) (by omega) (by decide) (fun c32 => absurd c32 (by omega)) (fun c32 => ?_)
      refine lv_aload_n hx hb dL_law_89 rfl (lv_at hl 1 rfl) ?_
      refine gCVJ (ci := 9) (q0 := 0) (C := RX6) (As := []) (rest := []) hE (k_asker l G a22 zm2 6 6 k hIm (by omega)) (cwV 0 hts gL_law_X6_asker rfl rfl rfl (by decide +kernel) ⟨Nat.le_of_ble_eq_true rfl, Nat.le_of_ble_eq_true rfl⟩) ⟨hx, hb, hml, hown, hts⟩ hK hP hD hS hA (gJ2e [(q27, .inl (G.2.2.1 0, 4, .inl (nA (va_up (va_up (va_up (va_up (fun _ => 0) 0 1) 1 2) 2 4) 3 8))))] (dW G a24 zb2) (dW G a22 zm2)) rfl rfl rfl hl rfl (Nat.le_of_ble_eq_true rfl) dL_law_90 ⟨Nat.le_trans (show 63 + 0 ≤ 500000 by omega) hR.1, Nat.le_trans (show 902 + 0 ≤ 6000000 by omega) hR.2⟩ (fun u9 H locs hu hP hD hS => ?_)
      obtain ⟨hI33, hf33⟩ := hu
      have hP : va_P (gD G) vwCl ([(q27, .inl (G.2.2.1 0, 4, .inl (nA (va_up (va_up (va_up (va_up (fun _ => 0) 0 1) 1 2) 2 4) 3 8))))] ++ (dW G a24 zb2 ++ (dW G a22 (zAkr zm2)))) H := hP
      have hD : va_D A ([(q27, .inl (G.2.2.1 0, 4, .inl (nA (va_up (va_up (va_up (va_up (fun _ => 0) 0 1) 1 2) 2 4) 3 8))))] ++ (dW G a24 zb2 ++ (dW G a22 (zAkr zm2)))) := hD
      refine W.widen (k := 63) (n := 902) (by show 63 + 0 ≤ 63; omega) (by show 902 + 0 ≤ 902; omega) ?_
      refine W.eq (g2 := F0 m9 93 ls [.int (nI (zm2.2.1 7))]) rfl ?_
      refine lv_pop hx hb dL_law_93 rfl ?_
      refine lv_aload_n hx hb dL_law_94 rfl (lv_at hl 2 rfl) ?_
      refine gCVJ (ci := 9) (q0 := 0) (C := RX6) (As := []) (rest := []) hE (k_asker l G a24 zb2 6 6 k hIb (by omega)) (cwV 0 hts gL_law_X6_asker rfl rfl rfl (by decide +kernel) ⟨Nat.le_of_ble_eq_true rfl, Nat.le_of_ble_eq_true rfl⟩) ⟨hx, hb, hml, hown, hts⟩ hK hP hD hS hA (gJ1 [(q27, .inl (G.2.2.1 0, 4, .inl (nA (va_up (va_up (va_up (va_up (fun _ => 0) 0 1) 1 2) 2 4) 3 8))))]  (dW G a24 zb2) (dW G a22 (zAkr zm2))) rfl rfl rfl hl rfl (Nat.le_of_ble_eq_true rfl) dL_law_95 ⟨Nat.le_trans (show 63 + 0 ≤ 500000 by omega) hR.1, Nat.le_trans (show 902 + 0 ≤ 6000000 by omega) hR.2⟩ (fun u9 H locs hu hP hD hS => ?_)
      obtain ⟨hI34, hf34⟩ := hu
      have hP : va_P (gD G) vwCl ([(q27, .inl (G.2.2.1 0, 4, .inl (nA (va_up (va_up (va_up (va_up (fun _ => 0) 0 1) 1 2) 2 4) 3 8))))] ++ (dW G a24 (zAkr zb2) ++ (dW G a22 (zAkr zm2)))) H := hP
      have hD : va_D A ([(q27, .inl (G.2.2.1 0, 4, .inl (nA (va_up (va_up (va_up (va_up (fun _ => 0) 0 1) 1 2) 2 4) 3 8))))] ++ (dW G a24 (zAkr zb2) ++ (dW G a22 (zAkr zm2)))) := hD
      refine W.widen (k := 63) (n := 902) (by show 63 + 0 ≤ 63; omega) (by show 902 + 0 ≤ 902; omega) ?_
      refine W.eq (g2 := F0 m9 98 ls [.int (nI (zb2.2.1 7))]) rfl ?_
      refine lv_pop hx hb dL_law_98 rfl ?_
      refine lv_iinc (lv' := [(4, .int (nI (k + 1))), (0, .ref (G.2.2.2 259)), (1, .ref (a22 0)), (2, .ref (a24 0)), (3, .ref q27)]) hx hb dL_law_99 hl (k := 4) rfl (n_inc _) (by decide) rfl (fun ls hl => ?_)
      refine lv_goto (tgt := 83) hx hb dL_law_102 (by decide) ?_
      exact iha (k + 1) (zAkr zm2) (zAkr zb2) (by omega) hI33 hI34 (hf33.trans hfm) (hf34.trans hfb) _ _ (gtP hP [0] rfl) (gtD hD [0] (by decide) rfl) hS _ (lv_sub hl [1, 2, 3, 4, 0] rfl)
  | succ rmk ihk =>
    intro k zm zb hik hIm hIb hfm hfb H locs hP hD hS ls hl
    refine lv_iload_n hx hb dL_law_18 rfl (lv_at hl 3 rfl) ?_
    refine lv_bipush (v := nI 6) hx hb dL_law_19 (by decide) ?_
    refine gN_ge (tgt := 59) hx hb dL_law_21 (by decide) (by omega) (by decide) (fun c35 => absurd c35 (by omega)) (fun c35 => ?_)
    refine lv_aload_n hx hb dL_law_24 rfl (lv_at hl 1 rfl) ?_
    refine gCVJ (ci := 9) (q0 := 0) (C := RX6) (As := []) (rest := []) hE (k_source l G a22 zm k k 0 hIm (by omega)) (cwV 0 hts gL_law_X6_source rfl rfl rfl (by decide +kernel) ⟨Nat.le_of_ble_eq_true rfl, Nat.le_of_ble_eq_true rfl⟩) ⟨hx, hb, hml, hown, hts⟩ hK hP hD hS hA (gJ2e [] (dW G a24 zb) (dW G a22 zm)) rfl rfl rfl hl rfl (Nat.le_of_ble_eq_true rfl) dL_law_25 ⟨Nat.le_trans (show 62 + 0 ≤ 500000 by omega) hR.1, Nat.le_trans (show 898 + 0 ≤ 6000000 by omega) hR.2⟩ (fun u9 H locs hu hP hD hS => ?_)
    obtain ⟨hI36, hf36⟩ := hu
    have hP : va_P (gD G) vwCl ([] ++ (dW G a24 zb ++ (dW G a22 (zSrc zm)))) H := hP
    have hD : va_D A ([] ++ (dW G a24 zb ++ (dW G a22 (zSrc zm)))) := hD
    refine W.widen (k := 62) (n := 898) (by show 62 + 0 ≤ 62; omega) (by show 898 + 0 ≤ 898; omega) ?_
    refine W.eq (g2 := F0 m9 28 ls [.int (nI (zm.2.1 0))]) rfl ?_
    refine lv_pop hx hb dL_law_28 rfl ?_
    refine lv_aload_n hx hb dL_law_29 rfl (lv_at hl 2 rfl) ?_
    refine gCVJ (ci := 9) (q0 := 0) (C := RX6) (As := []) (rest := []) hE (k_source l G a24 zb k k 0 hIb (by omega)) (cwV 0 hts gL_law_X6_source rfl rfl rfl (by decide +kernel) ⟨Nat.le_of_ble_eq_true rfl, Nat.le_of_ble_eq_true rfl⟩) ⟨hx, hb, hml, hown, hts⟩ hK hP hD hS hA (gJ1 []  (dW G a24 zb) (dW G a22 (zSrc zm))) rfl rfl rfl hl rfl (Nat.le_of_ble_eq_true rfl) dL_law_30 ⟨Nat.le_trans (show 62 + 0 ≤ 500000 by omega) hR.1, Nat.le_trans (show 898 + 0 ≤ 6000000 by omega) hR.2⟩ (fun u9 H locs hu hP hD hS => ?_)
    obtain ⟨hI37, hf37⟩ := hu
    have hP : va_P (gD G) vwCl ([] ++ (dW G a24 (zSrc zb) ++ (dW G a22 (zSrc zm)))) H := hP
    have hD : va_D A ([] ++ (dW G a24 (zSrc zb) ++ (dW G a22 (zSrc zm)))) := hD
    refine W.widen (k := 62) (n := 898) (by show 62 + 0 ≤ 62; omega) (by show 898 + 0 ≤ 898; omega) ?_
    refine W.eq (g2 := F0 m9 33 ls [.int (nI (zb.2.1 0))]) rfl ?_
    refine lv_pop hx hb dL_law_33 rfl ?_
    refine lv_aload_n hx hb dL_law_34 rfl (lv_at hl 1 rfl) ?_
    refine lv_aload_n hx hb dL_law_35 rfl (lv_at hl 0 rfl) ?_
    refine lv_iload_n hx hb dL_law_36 rfl (lv_at hl 3 rfl) ?_
    refine lv_sipush (v := nI 1000) hx hb dL_law_37 (by decide) ?_
    refine gCSJ (As := [.ref (G.2.2.2 259), .int (nI k), .int (nI 1000)]) (rest := [.ref (a22 0)]) hE (c_drawn l G k 1000 (by omega) (by omega) (by omega)) (va_cwS 3 hts gL_law_L_drawn rfl rfl rfl (by decide +kernel) ⟨Nat.le_of_ble_eq_true rfl, Nat.le_of_ble_eq_true rfl⟩) ⟨hx, hb, hml, hown, hts⟩ hK hP hD hS hA (gJz ([] ++ (dW G a24 (zSrc zb) ++ (dW G a22 (zSrc zm))))) rfl hl rfl (Nat.le_of_ble_eq_true rfl) dL_law_40 ⟨Nat.le_trans (show 62 + 0 ≤ 500000 by omega) hR.1, Nat.le_trans (show 898 + 0 ≤ 6000000 by omega) hR.2⟩ (fun x38 H locs hu hP hD hS => ?_)
    have hx38 : x38 < 1000 := hu
    have hP : va_P (gD G) vwCl ([] ++ (dW G a24 (zSrc zb) ++ (dW G a22 (zSrc zm)))) H := hP
    have hD : va_D A ([] ++ (dW G a24 (zSrc zb) ++ (dW G a22 (zSrc zm)))) := hD
    refine W.widen (k := 62) (n := 898) (by show 62 + 0 ≤ 62; omega) (by show 898 + 0 ≤ 898; omega) ?_
    refine W.eq (g2 := F0 m9 43 ls [.int (nI x38), .ref (a22 0)]) rfl ?_
    refine gCVJ (ci := 9) (q0 := 0) (C := RX6) (As := [.int (nI x38)]) (rest := []) hE (k_person l G a22 (zSrc zm) (k + 1) k 0 x38 hI36 (by omega) (by omega)) (cwV 1 hts gL_law_X6_person rfl rfl rfl (by decide +kernel) ⟨Nat.le_of_ble_eq_true rfl, Nat.le_of_ble_eq_true rfl⟩) ⟨hx, hb, hml, hown, hts⟩ hK hP hD hS hA (gJ2e [] (dW G a24 (zSrc zb)) (dW G a22 (zSrc zm))) rfl rfl rfl hl rfl (Nat.le_of_ble_eq_true rfl) dL_law_43 ⟨Nat.le_trans (show 62 + 0 ≤ 500000 by omega) hR.1, Nat.le_trans (show 898 + 0 ≤ 6000000 by omega) hR.2⟩ (fun u9 H locs hu hP hD hS => ?_)
    obtain ⟨hI39, hf39⟩ := hu
    have hP : va_P (gD G) vwCl ([] ++ (dW G a24 (zSrc zb) ++ (dW G a22 (zPer (zSrc zm) x38)))) H := hP
    have hD : va_D A ([] ++ (dW G a24 (zSrc zb) ++ (dW G a22 (zPer (zSrc zm) x38)))) := hD
    refine W.widen (k := 62) (n := 898) (by show 62 + 0 ≤ 62; omega) (by show 898 + 0 ≤ 898; omega) ?_
    refine W.eq (g2 := F0 m9 46 ls [.int (nI ((zSrc zm).2.1 6))]) rfl ?_
    refine lv_pop hx hb dL_law_46 rfl ?_
    refine lv_aload_n hx hb dL_law_47 rfl (lv_at hl 2 rfl) ?_
    refine lv_iconst (v := nI 0) hx hb dL_law_48 (by decide) ?_
    refine gCVJ (ci := 9) (q0 := 0) (C := RX6) (As := [.int (nI 0)]) (rest := []) hE (k_person l G a24 (zSrc zb) (k + 1) k 0 0 hI37 (by omega) (by omega)) (cwV 1 hts gL_law_X6_person rfl rfl rfl (by decide +kernel) ⟨Nat.le_of_ble_eq_true rfl, Nat.le_of_ble_eq_true rfl⟩) ⟨hx, hb, hml, hown, hts⟩ hK hP hD hS hA (gJ1 []  (dW G a24 (zSrc zb)) (dW G a22 (zPer (zSrc zm) x38))) rfl rfl rfl hl rfl (Nat.le_of_ble_eq_true rfl) dL_law_49 ⟨Nat.le_trans (show 62 + 0 ≤ 500000 by omega) hR.1, Nat.le_trans (show 898 + 0 ≤ 6000000 by omega) hR.2⟩ (fun u9 H locs hu hP hD hS => ?_)
    obtain ⟨hI40, hf40⟩ := hu
    have hP : va_P (gD G) vwCl ([] ++ (dW G a24 (zPer (zSrc zb) 0) ++ (dW G a22 (zPer (zSrc zm) x38)))) H := hP
    have hD : va_D A ([] ++ (dW G a24 (zPer (zSrc zb) 0) ++ (dW G a22 (zPer (zSrc zm) x38)))) := hD
    refine W.widen (k := 62) (n := 898) (by show 62 + 0 ≤ 62; omega) (by show 898 + 0 ≤ 898; omega) ?_
    refine W.eq (g2 := F0 m9 52 ls [.int (nI ((zSrc zb).2.1 6))]) rfl ?_
    refine lv_pop hx hb dL_law_52 rfl ?_
    refine lv_iinc (lv' := [(3, .int (nI (k + 1))), (0, .ref (G.2.2.2 259)), (1, .ref (a22 0)), (2, .ref (a24 0))]) hx hb dL_law_53 hl (k := 3) rfl (n_inc _) (by decide) rfl (fun ls hl => ?_)
    refine lv_goto (tgt := 18) hx hb dL_law_56 (by decide) ?_
    exact ihk (k + 1) (zPer (zSrc zm) x38) (zPer (zSrc zb) 0) (by omega) hI39 hI40 (hf39.trans (hf36.trans hfm)) (hf40.trans (hf37.trans hfb)) _ _ (gtP hP [] rfl) (gtD hD [] (by decide) rfl) hS _ (lv_sub hl [1, 2, 3, 0] rfl)
