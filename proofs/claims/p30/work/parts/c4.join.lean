set_option maxHeartbeats 8000000 in
set_option maxRecDepth 100000 in
/-- a round joins -/
theorem lw_join {P9 : Program} {l : Launch} {e9 : Env} {s : State} {m9 : MethodId} {args : Array Value} {below : List Frame} {meth : Method} {c9 : Code} {Q : State → Prop} {G : gG} {A : Nat → Prop} {am ab : Nat → Nat} {ci pe to : Nat} (hX : lX P9 s m9 c9 args G A) (n c t : Nat) (hn : n < 48) (hc : c ≤ 490000) (ht : t ≤ 5900000) (K : HD P9 l e9 s m9 args below meth c9 Q G A am ab ci pe to 580 (n + 1) n (c + 10) (t + 400)) : HS P9 l e9 s m9 args below meth c9 Q G A am ab ci pe to 291 n c t := by
  obtain ⟨hx, hb, hml, hown, hts, hK, hA, hE, hR⟩ := id hX
  intro zm zb C tn tq tN tf LP D pf np nt a b hI ha hb6 H locs hP hD hS ls hl
  obtain ⟨⟨hIm, hIb, hfc⟩, hC, ⟨htn, htN, htl⟩, hpp, hnp, hnt⟩ := id hI
  have hnp8 : np ≤ 8 := hnp ▸ hIm.1.2.2.1
  have hnt10 : nt ≤ 10 := hnt ▸ hIm.1.2.1.1.1
  refine lv_iload hx hb dL_law_291 (lv_at hl 7 rfl) ?_
  refine lv_bipush (v := nI 10) hx hb dL_law_293 (by decide) ?_
  refine gN_ge (tgt := 580) hx hb dL_law_295 (by decide) (by omega) (by decide) (fun c21 => ?_) (fun c21 => ?_)
  · refine W.widen (k := (c + 10)) (n := (t + 400)) (by omega) (by omega) ?_
    exact K zm zb C tn tq tN tf LP D pf np nt (RI_next hI) _ _ (gtP hP [0, 1] rfl) (gtD hD [0, 1] (by decide) rfl) hS _ (lv_sub hl [0, 1, 2, 3, 4, 5, 6, 7, 8] rfl)
  · refine lv_aload_n hx hb dL_law_298 rfl (lv_at hl 1 rfl) ?_
    refine lv_iload hx hb dL_law_299 (lv_at hl 10 rfl) ?_
    refine lv_iload hx hb dL_law_301 (lv_at hl 11 rfl) ?_
    refine gCVJ (ci := 9) (q0 := 0) (C := RX6) (As := [.int (nI a), .int (nI b)]) (rest := []) hE (k_wouldJoin l G am zm a b hIm (by omega) (by omega)) (cwV 2 hts gL_law_X6_wouldJoin rfl rfl rfl (by decide +kernel) ⟨Nat.le_of_ble_eq_true rfl, Nat.le_of_ble_eq_true rfl⟩) ⟨hx, hb, hml, hown, hts⟩ hK hP hD hS hA (gJ1 [(ci, .inl (G.2.2.1 0, 4, .inl (nA C))), (pe, .inl (G.2.2.1 1, 8, .inr (.inr (.inr (.inr pf)))))]  (dW G am zm) (dW G ab zb ++ (tlW G to tn tn tq tN tf ++ (va_pl LP (iF G D))))) rfl rfl rfl hl rfl (Nat.le_of_ble_eq_true rfl) dL_law_303 ⟨Nat.le_trans (show c + 0 ≤ 500000 by omega) hR.1, Nat.le_trans (show t + 0 ≤ 6000000 by omega) hR.2⟩ (fun v22 H locs hu hP hD hS => ?_)
    have hw22 := hu
    have hP : va_P (gD G) vwCl ([(ci, .inl (G.2.2.1 0, 4, .inl (nA C))), (pe, .inl (G.2.2.1 1, 8, .inr (.inr (.inr (.inr pf)))))] ++ (dW G am zm ++ (dW G ab zb ++ (tlW G to tn tn tq tN tf ++ (va_pl LP (iF G D)))))) H := hP
    have hD : va_D A ([(ci, .inl (G.2.2.1 0, 4, .inl (nA C))), (pe, .inl (G.2.2.1 1, 8, .inr (.inr (.inr (.inr pf)))))] ++ (dW G am zm ++ (dW G ab zb ++ (tlW G to tn tn tq tN tf ++ (va_pl LP (iF G D)))))) := hD
    refine W.widen (k := c) (n := t) (by show c + 0 ≤ c; omega) (by show t + 0 ≤ t; omega) ?_
    refine W.eq (g2 := F0 m9 306 ls [.int v22]) rfl ?_
    refine lv_if_ge (tgt := 580) hx hb dL_law_306 (by decide) (fun c23 => ?_) (fun c23 => ?_)
    · refine W.widen (k := (c + 10)) (n := (t + 400)) (by omega) (by omega) ?_
      exact K zm zb C tn tq tN tf LP D pf np nt (RI_next hI) _ _ (gtP hP [0, 1] rfl) (gtD hD [0, 1] (by decide) rfl) hS _ (lv_sub hl [0, 1, 2, 3, 4, 5, 6, 7, 8] rfl)
    · have hno : ¬ anyP (zm.1 1) (2 ^ a ||| 2 ^ b) 6 := pairR_neg (by decide) hw22 c23
      have hbr : zb.2.1 1 = zm.2.1 1 := (congrArg (fun q : FC => q.2.1) hfc).symm
      have hkf : zb.1 0 = zm.1 0 := (congrArg (fun q : FC => q.1) hfc).symm
      have htc : zb.2.1 2 = zm.2.1 2 := (congrArg (fun q : FC => q.2.2.2.1) hfc).symm
      have hkb := hIb.1.1
      rw [hkf, hbr] at hkb
      have hnob : ¬ anyP (zb.1 1) (2 ^ a ||| 2 ^ b) 6 := fun z => hno (kinI_any hIm.1.1 hkb z)
      refine lv_aload_n hx hb dL_law_309 rfl (lv_at hl 1 rfl) ?_
      refine lv_iload hx hb dL_law_310 (lv_at hl 10 rfl) ?_
      refine lv_iload hx hb dL_law_312 (lv_at hl 11 rfl) ?_
      refine gCVJ (ci := 9) (q0 := 0) (C := RX6) (As := [.int (nI a), .int (nI b)]) (rest := []) hE (k_join l G am zm a b hIm (by omega) (by omega) (by omega) hno) (cwV 2 hts gL_law_X6_join rfl rfl rfl (by decide +kernel) ⟨Nat.le_of_ble_eq_true rfl, Nat.le_of_ble_eq_true rfl⟩) ⟨hx, hb, hml, hown, hts⟩ hK hP hD hS hA (gJ1 [(ci, .inl (G.2.2.1 0, 4, .inl (nA C))), (pe, .inl (G.2.2.1 1, 8, .inr (.inr (.inr (.inr pf)))))]  (dW G am zm) (dW G ab zb ++ (tlW G to tn tn tq tN tf ++ (va_pl LP (iF G D))))) rfl rfl rfl hl rfl (Nat.le_of_ble_eq_true rfl) dL_law_314 ⟨Nat.le_trans (show c + 0 ≤ 500000 by omega) hR.1, Nat.le_trans (show t + 0 ≤ 6000000 by omega) hR.2⟩ (fun u9 H locs hu hP hD hS => ?_)
      obtain ⟨hI24, hf24⟩ := hu
      have hP : va_P (gD G) vwCl ([(ci, .inl (G.2.2.1 0, 4, .inl (nA C))), (pe, .inl (G.2.2.1 1, 8, .inr (.inr (.inr (.inr pf)))))] ++ (dW G am (zJoin zm a b) ++ (dW G ab zb ++ (tlW G to tn tn tq tN tf ++ (va_pl LP (iF G D)))))) H := hP
      have hD : va_D A ([(ci, .inl (G.2.2.1 0, 4, .inl (nA C))), (pe, .inl (G.2.2.1 1, 8, .inr (.inr (.inr (.inr pf)))))] ++ (dW G am (zJoin zm a b) ++ (dW G ab zb ++ (tlW G to tn tn tq tN tf ++ (va_pl LP (iF G D)))))) := hD
      refine W.widen (k := c) (n := t) (by show c + 0 ≤ c; omega) (by show t + 0 ≤ t; omega) ?_
      refine W.eq (g2 := F0 m9 317 ls [.int (nI (10 + zm.2.1 2))]) rfl ?_
      refine lv_pop hx hb dL_law_317 rfl ?_
      refine lv_aload_n hx hb dL_law_318 rfl (lv_at hl 2 rfl) ?_
      refine lv_iload hx hb dL_law_319 (lv_at hl 10 rfl) ?_
      refine lv_iload hx hb dL_law_321 (lv_at hl 11 rfl) ?_
      refine gCVJ (ci := 9) (q0 := 0) (C := RX6) (As := [.int (nI a), .int (nI b)]) (rest := []) hE (k_join l G ab zb a b hIb (by omega) (by omega) (by omega) hnob) (cwV 2 hts gL_law_X6_join rfl rfl rfl (by decide +kernel) ⟨Nat.le_of_ble_eq_true rfl, Nat.le_of_ble_eq_true rfl⟩) ⟨hx, hb, hml, hown, hts⟩ hK hP hD hS hA (gJ2 [(ci, .inl (G.2.2.1 0, 4, .inl (nA C))), (pe, .inl (G.2.2.1 1, 8, .inr (.inr (.inr (.inr pf)))))] (dW G am (zJoin zm a b)) (dW G ab zb) (tlW G to tn tn tq tN tf ++ (va_pl LP (iF G D)))) rfl rfl rfl hl rfl (Nat.le_of_ble_eq_true rfl) dL_law_323 ⟨Nat.le_trans (show c + 0 ≤ 500000 by omega) hR.1, Nat.le_trans (show t + 0 ≤ 6000000 by omega) hR.2⟩ (fun u9 H locs hu hP hD hS => ?_)
      obtain ⟨hI25, hf25⟩ := hu
      have hP : va_P (gD G) vwCl ([(ci, .inl (G.2.2.1 0, 4, .inl (nA C))), (pe, .inl (G.2.2.1 1, 8, .inr (.inr (.inr (.inr pf)))))] ++ (dW G am (zJoin zm a b) ++ (dW G ab (zJoin zb a b) ++ (tlW G to tn tn tq tN tf ++ (va_pl LP (iF G D)))))) H := hP
      have hD : va_D A ([(ci, .inl (G.2.2.1 0, 4, .inl (nA C))), (pe, .inl (G.2.2.1 1, 8, .inr (.inr (.inr (.inr pf)))))] ++ (dW G am (zJoin zm a b) ++ (dW G ab (zJoin zb a b) ++ (tlW G to tn tn tq tN tf ++ (va_pl LP (iF G D)))))) := hD
      refine W.widen (k := c) (n := t) (by show c + 0 ≤ c; omega) (by show t + 0 ≤ t; omega) ?_
      refine W.eq (g2 := F0 m9 326 ls [.int (nI (10 + zb.2.1 2))]) rfl ?_
      refine lv_pop hx hb dL_law_326 rfl ?_
      refine lv_iinc (lv' := [(7, .int (nI (nt + 1))), (0, .ref (G.2.2.2 259)), (1, .ref (am 0)), (2, .ref (ab 0)), (3, .ref ci), (4, .ref to), (5, .ref pe), (6, .int (nI np)), (8, .int (nI n)), (9, .int (nI (6 + 5 * n))), (10, .int (nI a)), (11, .int (nI b))]) hx hb dL_law_327 hl (k := 7) rfl (n_inc _) (by decide) rfl (fun ls hl => ?_)
      refine lv_goto (tgt := 580) hx hb dL_law_330 (by decide) ?_
      refine W.widen (k := (c + 10)) (n := (t + 400)) (by omega) (by omega) ?_
      exact K (zJoin zm a b) (zJoin zb a b) C tn tq tN tf LP D pf np (nt + 1) (RI_same hI hI24 hI25 (hf24.trans ((congrArg (fun q : FC => ((q.1, q.2.1, va_up q.2.2.1 q.2.2.2.1 (2 ^ a ||| 2 ^ b), q.2.2.2.1 + 1, q.2.2.2.2) : FC)) hfc).trans hf25.symm)) ((congrArg (fun q : FC => q.2.2.2.2) hf24).trans rfl) ((congrArg (· + 1) hnt).trans (congrArg (fun q : FC => q.2.2.2.1) hf24).symm)) _ _ (gtP hP [0, 1] rfl) (gtD hD [0, 1] (by decide) rfl) hS _ (lv_sub hl [1, 2, 3, 4, 5, 6, 7, 0, 8] rfl)
