set_option maxHeartbeats 8000000 in
set_option maxRecDepth 100000 in
/-- a round tells kin -/
theorem lw_kin {P9 : Program} {l : Launch} {e9 : Env} {s : State} {m9 : MethodId} {args : Array Value} {below : List Frame} {meth : Method} {c9 : Code} {Q : State → Prop} {G : gG} {A : Nat → Prop} {am ab : Nat → Nat} {ci pe to : Nat} (hX : lX P9 s m9 c9 args G A) (n c t : Nat) (hn : n < 48) (hc : c ≤ 490000) (ht : t ≤ 5900000) (K : HD P9 l e9 s m9 args below meth c9 Q G A am ab ci pe to 580 (n + 1) n (c + 10) (t + 400)) : HS P9 l e9 s m9 args below meth c9 Q G A am ab ci pe to 212 n c t := by
  obtain ⟨hx, hb, hml, hown, hts, hK, hA, hE, hR⟩ := id hX
  intro zm zb C tn tq tN tf LP D pf np nt a b hI ha hb6 H locs hP hD hS ls hl
  obtain ⟨⟨hIm, hIb, hfc⟩, hC, ⟨htn, htN, htl⟩, hpp, hnp, hnt⟩ := id hI
  have hnp8 : np ≤ 8 := hnp ▸ hIm.1.2.2.1
  have hnt10 : nt ≤ 10 := hnt ▸ hIm.1.2.1.1.1
  refine lv_iload hx hb dL_law_212 (lv_at hl 10 rfl) ?_
  refine lv_iload hx hb dL_law_214 (lv_at hl 11 rfl) ?_
  refine gN_eq (tgt := 580) hx hb dL_law_216 (by decide) (by omega) (by omega) (fun c21 => ?_) (fun c21 => ?_)
  · refine W.widen (k := (c + 10)) (n := (t + 400)) (by omega) (by omega) ?_
    exact K zm zb C tn tq tN tf LP D pf np nt  (RI_next hI) _ _ (gtP hP [0, 1] rfl) (gtD hD [0, 1] (by decide) rfl) hS _ (lv_sub hl [0, 1, 2, 3, 4, 5, 6, 7, 8] rfl)
  · refine lv_aload_n hx hb dL_law_219 rfl (lv_at hl 0 rfl) ?_
    refine lv_iload hx hb dL_law_220 (lv_at hl 9 rfl) ?_
    refine lv_iconst (v := nI 3) hx hb dL_law_222 (by decide) ?_
    refine lv_iadd hx hb dL_law_223 ?_
    refine gTop (y := (nI (6 + 5 * n + 3))) (nI_add _ _) ?_
    refine lv_iconst (v := nI 3) hx hb dL_law_224 (by decide) ?_
    refine gCSJ (As := [.ref (G.2.2.2 259), .int (nI (6 + 5 * n + 3)), .int (nI 3)]) (rest := []) hE (c_drawn l G (6 + 5 * n + 3) 3 (by omega) (by omega) (by omega)) (va_cwS 3 hts gL_law_L_drawn rfl rfl rfl (by decide +kernel) ⟨Nat.le_of_ble_eq_true rfl, Nat.le_of_ble_eq_true rfl⟩) ⟨hx, hb, hml, hown, hts⟩ hK hP hD hS hA (gJz ([(ci, .inl (G.2.2.1 0, 4, .inl (nA C))), (pe, .inl (G.2.2.1 1, 8, .inr (.inr (.inr (.inr pf)))))] ++ (dW G am zm ++ (dW G ab zb ++ (tlW G to tn tn tq tN tf ++ (va_pl LP (iF G D))))))) rfl hl rfl (Nat.le_of_ble_eq_true rfl) dL_law_225 ⟨Nat.le_trans (show c + 0 ≤ 500000 by omega) hR.1, Nat.le_trans (show t + 0 ≤ 6000000 by omega) hR.2⟩ (fun x22 H locs hu hP hD hS => ?_)
    have hx22 : x22 < 3 := hu
    have hP : va_P (gD G) vwCl ([(ci, .inl (G.2.2.1 0, 4, .inl (nA C))), (pe, .inl (G.2.2.1 1, 8, .inr (.inr (.inr (.inr pf)))))] ++ (dW G am zm ++ (dW G ab zb ++ (tlW G to tn tn tq tN tf ++ (va_pl LP (iF G D)))))) H := hP
    have hD : va_D A ([(ci, .inl (G.2.2.1 0, 4, .inl (nA C))), (pe, .inl (G.2.2.1 1, 8, .inr (.inr (.inr (.inr pf)))))] ++ (dW G am zm ++ (dW G ab zb ++ (tlW G to tn tn tq tN tf ++ (va_pl LP (iF G D)))))) := hD
    refine W.widen (k := c) (n := t) (by show c + 0 ≤ c; omega) (by show t + 0 ≤ t; omega) ?_
    refine W.eq (g2 := F0 m9 228 ls [.int (nI x22)]) rfl ?_
    refine gN_le0 (tgt := 235) hx hb dL_law_228 (by decide) (by omega) (fun c23 => ?_) (fun c23 => ?_)
    · refine lv_iconst (v := nI 0) hx hb dL_law_235 (by decide) ?_
      refine lv_istore (lv' := [(12, .int (nI 0)), (0, .ref (G.2.2.2 259)), (1, .ref (am 0)), (2, .ref (ab 0)), (3, .ref ci), (4, .ref to), (5, .ref pe), (6, .int (nI np)), (7, .int (nI nt)), (8, .int (nI n)), (9, .int (nI (6 + 5 * n))), (10, .int (nI a)), (11, .int (nI b))]) hx hb dL_law_236 hl (by decide) rfl (fun ls hl => ?_)
      refine lv_aload_n hx hb dL_law_238 rfl (lv_at hl 2 rfl) ?_
      refine lv_iload hx hb dL_law_239 (lv_at hl 11 rfl) ?_
      refine lv_iload hx hb dL_law_241 (lv_at hl 12 rfl) ?_
      refine lv_iload hx hb dL_law_243 (lv_at hl 0 rfl) ?_
      refine gCVJ (ci := 9) (q0 := 0) (C := RX6) (As := [.int (nI a), .int (nI b), .int (nI 0)]) (rest := []) hE (k_kin l G am zm a b 0 hIm (by omega) (by omega) (by omega) (by omega)) (cwV 3 hts gL_law_X6_kin rfl rfl rfl (by decide +kernel) ⟨Nat.le_of_ble_eq_true rfl, Nat.le_of_ble_eq_true rfl⟩) ⟨hx, hb, hml, hown, hts⟩ hK hP hD hS hA (gJ1 [(ci, .inl (G.2.2.1 0, 4, .inl (nA C))), (pe, .inl (G.2.2.1 1, 8, .inr (.inr (.inr (.inr pf)))))]  (dW G am zm) (dW G ab zb ++ (tlW G to tn tn tq tN tf ++ (va_pl LP (iF G D))))) rfl rfl rfl hl rfl (Nat.le_of_ble_eq_true rfl) dL_law_245 ⟨Nat.le_trans (show c + 0 ≤ 500000 by omega) hR.1, Nat.le_trans (show t + 0 ≤ 6000000 by omega) hR.2⟩ (fun u9 H locs hu hP hD hS => ?_)
      obtain ⟨z24, v24⟩ := u9
      obtain ⟨hI24, hf24⟩ := hu
      have hP : va_P (gD G) vwCl ([(ci, .inl (G.2.2.1 0, 4, .inl (nA C))), (pe, .inl (G.2.2.1 1, 8, .inr (.inr (.inr (.inr pf)))))] ++ (dW G am z24 ++ (dW G ab zb ++ (tlW G to tn tn tq tN tf ++ (va_pl LP (iF G D)))))) H := hP
      have hD : va_D A ([(ci, .inl (G.2.2.1 0, 4, .inl (nA C))), (pe, .inl (G.2.2.1 1, 8, .inr (.inr (.inr (.inr pf)))))] ++ (dW G am z24 ++ (dW G ab zb ++ (tlW G to tn tn tq tN tf ++ (va_pl LP (iF G D)))))) := hD
      refine W.widen (k := c) (n := t) (by show c + 0 ≤ c; omega) (by show t + 0 ≤ t; omega) ?_
      refine W.eq (g2 := F0 m9 248 ls [.int v24]) rfl ?_
      refine lv_pop hx hb dL_law_248 rfl ?_
      refine lv_aload_n hx hb dL_law_249 rfl (lv_at hl 3 rfl) ?_
      refine lv_iload hx hb dL_law_250 (lv_at hl 11 rfl) ?_
      refine lv_iload hx hb dL_law_252 (lv_at hl 12 rfl) ?_
      refine lv_iload hx hb dL_law_254 (lv_at hl 0 rfl) ?_
      refine gCVJ (ci := 9) (q0 := 0) (C := RX6) (As := [.int (nI a), .int (nI b), .int (nI 0)]) (rest := []) hE (k_kin l G ab zb a b 0 hIb (by omega) (by omega) (by omega) (by omega)) (cwV 3 hts gL_law_X6_kin rfl rfl rfl (by decide +kernel) ⟨Nat.le_of_ble_eq_true rfl, Nat.le_of_ble_eq_true rfl⟩) ⟨hx, hb, hml, hown, hts⟩ hK hP hD hS hA (gJ2 [(ci, .inl (G.2.2.1 0, 4, .inl (nA C))), (pe, .inl (G.2.2.1 1, 8, .inr (.inr (.inr (.inr pf)))))] (dW G am z24) (dW G ab zb) (tlW G to tn tn tq tN tf ++ (va_pl LP (iF G D)))) rfl rfl rfl hl rfl (Nat.le_of_ble_eq_true rfl) dL_law_256 ⟨Nat.le_trans (show c + 0 ≤ 500000 by omega) hR.1, Nat.le_trans (show t + 0 ≤ 6000000 by omega) hR.2⟩ (fun u9 H locs hu hP hD hS => ?_)
      obtain ⟨z25, v25⟩ := u9
      obtain ⟨hI25, hf25⟩ := hu
      have hP : va_P (gD G) vwCl ([(ci, .inl (G.2.2.1 0, 4, .inl (nA C))), (pe, .inl (G.2.2.1 1, 8, .inr (.inr (.inr (.inr pf)))))] ++ (dW G am z24 ++ (dW G ab z25 ++ (tlW G to tn tn tq tN tf ++ (va_pl LP (iF G D)))))) H := hP
      have hD : va_D A ([(ci, .inl (G.2.2.1 0, 4, .inl (nA C))), (pe, .inl (G.2.2.1 1, 8, .inr (.inr (.inr (.inr pf)))))] ++ (dW G am z24 ++ (dW G ab z25 ++ (tlW G to tn tn tq tN tf ++ (va_pl LP (iF G D)))))) := hD
      refine W.widen (k := c) (n := t) (by show c + 0 ≤ c; omega) (by show t + 0 ≤ t; omega) ?_
      refine W.eq (g2 := F0 m9 259 ls [.int v25]) rfl ?_
      refine lv_pop hx hb dL_law_259 rfl ?_
      refine lv_goto (tgt := 580) hx hb dL_law_260 (by decide) ?_
      refine W.widen (k := (c + 10)) (n := (t + 400)) (by omega) (by omega) ?_
      exact K z24 z25 C tn tq tN tf LP D pf np nt  (RI_same hI hI24 hI25 (hf24.trans ((congrArg (fun q : FC => ((kinF 0 q.1 a b, q.2) : FC)) hfc).trans hf25.symm)) ((congrArg (fun q : FC => q.2.2.2.2) hf24).trans rfl) (hnt.trans (congrArg (fun q : FC => q.2.2.2.1) hf24).symm)) _ _ (gtP hP [0, 1] rfl) (gtD hD [0, 1] (by decide) rfl) hS _ (lv_sub hl [1, 2, 3, 4, 5, 6, 7, 8, 9] rfl)
    · refine lv_iconst (v := nI 1) hx hb dL_law_231 (by decide) ?_
      refine lv_goto (tgt := 236) hx hb dL_law_232 (by decide) ?_
      refine lv_istore (lv' := [(12, .int (nI 1)), (0, .ref (G.2.2.2 259)), (1, .ref (am 0)), (2, .ref (ab 0)), (3, .ref ci), (4, .ref to), (5, .ref pe), (6, .int (nI np)), (7, .int (nI nt)), (8, .int (nI n)), (9, .int (nI (6 + 5 * n))), (10, .int (nI a)), (11, .int (nI b))]) hx hb dL_law_236 hl (by decide) rfl (fun ls hl => ?_)
      refine lv_aload_n hx hb dL_law_238 rfl (lv_at hl 2 rfl) ?_
      refine lv_iload hx hb dL_law_239 (lv_at hl 11 rfl) ?_
      refine lv_iload hx hb dL_law_241 (lv_at hl 12 rfl) ?_
      refine lv_iload hx hb dL_law_243 (lv_at hl 0 rfl) ?_
      refine gCVJ (ci := 9) (q0 := 0) (C := RX6) (As := [.int (nI a), .int (nI b), .int (nI 1)]) (rest := []) hE (k_kin l G am zm a b 1 hIm (by omega) (by omega) (by omega) (by omega)) (cwV 3 hts gL_law_X6_kin rfl rfl rfl (by decide +kernel) ⟨Nat.le_of_ble_eq_true rfl, Nat.le_of_ble_eq_true rfl⟩) ⟨hx, hb, hml, hown, hts⟩ hK hP hD hS hA (gJ1 [(ci, .inl (G.2.2.1 0, 4, .inl (nA C))), (pe, .inl (G.2.2.1 1, 8, .inr (.inr (.inr (.inr pf)))))]  (dW G am zm) (dW G ab zb ++ (tlW G to tn tn tq tN tf ++ (va_pl LP (iF G D))))) rfl rfl rfl hl rfl (Nat.le_of_ble_eq_true rfl) dL_law_245 ⟨Nat.le_trans (show c + 0 ≤ 500000 by omega) hR.1, Nat.le_trans (show t + 0 ≤ 6000000 by omega) hR.2⟩ (fun u9 H locs hu hP hD hS => ?_)
      obtain ⟨z26, v26⟩ := u9
      obtain ⟨hI26, hf26⟩ := hu
      have hP : va_P (gD G) vwCl ([(ci, .inl (G.2.2.1 0, 4, .inl (nA C))), (pe, .inl (G.2.2.1 1, 8, .inr (.inr (.inr (.inr pf)))))] ++ (dW G am z26 ++ (dW G ab zb ++ (tlW G to tn tn tq tN tf ++ (va_pl LP (iF G D)))))) H := hP
      have hD : va_D A ([(ci, .inl (G.2.2.1 0, 4, .inl (nA C))), (pe, .inl (G.2.2.1 1, 8, .inr (.inr (.inr (.inr pf)))))] ++ (dW G am z26 ++ (dW G ab zb ++ (tlW G to tn tn tq tN tf ++ (va_pl LP (iF G D)))))) := hD
      refine W.widen (k := c) (n := t) (by show c + 0 ≤ c; omega) (by show t + 0 ≤ t; omega) ?_
      refine W.eq (g2 := F0 m9 248 ls [.int v26]) rfl ?_
      refine lv_pop hx hb dL_law_248 rfl ?_
      refine lv_aload_n hx hb dL_law_249 rfl (lv_at hl 3 rfl) ?_
      refine lv_iload hx hb dL_law_250 (lv_at hl 11 rfl) ?_
      refine lv_iload hx hb dL_law_252 (lv_at hl 12 rfl) ?_
      refine lv_iload hx hb dL_law_254 (lv_at hl 0 rfl) ?_
      refine gCVJ (ci := 9) (q0 := 0) (C := RX6) (As := [.int (nI a), .int (nI b), .int (nI 1)]) (rest := []) hE (k_kin l G ab zb a b 1 hIb (by omega) (by omega) (by omega) (by omega)) (cwV 3 hts gL_law_X6_kin rfl rfl rfl (by decide +kernel) ⟨Nat.le_of_ble_eq_true rfl, Nat.le_of_ble_eq_true rfl⟩) ⟨hx, hb, hml, hown, hts⟩ hK hP hD hS hA (gJ2 [(ci, .inl (G.2.2.1 0, 4, .inl (nA C))), (pe, .inl (G.2.2.1 1, 8, .inr (.inr (.inr (.inr pf)))))] (dW G am z26) (dW G ab zb) (tlW G to tn tn tq tN tf ++ (va_pl LP (iF G D)))) rfl rfl rfl hl rfl (Nat.le_of_ble_eq_true rfl) dL_law_256 ⟨Nat.le_trans (show c + 0 ≤ 500000 by omega) hR.1, Nat.le_trans (show t + 0 ≤ 6000000 by omega) hR.2⟩ (fun u9 H locs hu hP hD hS => ?_)
      obtain ⟨z27, v27⟩ := u9
      obtain ⟨hI27, hf27⟩ := hu
      have hP : va_P (gD G) vwCl ([(ci, .inl (G.2.2.1 0, 4, .inl (nA C))), (pe, .inl (G.2.2.1 1, 8, .inr (.inr (.inr (.inr pf)))))] ++ (dW G am z26 ++ (dW G ab z27 ++ (tlW G to tn tn tq tN tf ++ (va_pl LP (iF G D)))))) H := hP
      have hD : va_D A ([(ci, .inl (G.2.2.1 0, 4, .inl (nA C))), (pe, .inl (G.2.2.1 1, 8, .inr (.inr (.inr (.inr pf)))))] ++ (dW G am z26 ++ (dW G ab z27 ++ (tlW G to tn tn tq tN tf ++ (va_pl LP (iF G D)))))) := hD
      refine W.widen (k := c) (n := t) (by show c + 0 ≤ c; omega) (by show t + 0 ≤ t; omega) ?_
      refine W.eq (g2 := F0 m9 259 ls [.int v27]) rfl ?_
      refine lv_pop hx hb dL_law_259 rfl ?_
      refine lv_goto (tgt := 580) hx hb dL_law_260 (by decide) ?_
      refine W.widen (k := (c + 10)) (n := (t + 400)) (by omega) (by omega) ?_
      exact K z26 z27 C tn tq tN tf LP D pf np nt  (RI_same hI hI26 hI27 (hf26.trans ((congrArg (fun q : FC => ((kinF 1 q.1 a b, q.2) : FC)) hfc).trans hf27.symm)) ((congrArg (fun q : FC => q.2.2.2.2) hf26).trans rfl) (hnt.trans (congrArg (fun q : FC => q.2.2.2.1) hf26).symm)) _ _ (gtP hP [0, 1] rfl) (gtD hD [0, 1] (by decide) rfl) hS _ (lv_sub hl [1, 2, 3, 4, 5, 6, 7, 8, 9] rfl)
