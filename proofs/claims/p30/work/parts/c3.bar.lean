set_option maxHeartbeats 8000000 in
set_option maxRecDepth 100000 in
/-- a round tells the bar -/
theorem lw_bar {P9 : Program} {l : Launch} {e9 : Env} {s : State} {m9 : MethodId} {args : Array Value} {below : List Frame} {meth : Method} {c9 : Code} {Q : State → Prop} {G : gG} {A : Nat → Prop} {am ab : Nat → Nat} {ci pe to : Nat} (hX : lX P9 s m9 c9 args G A) (n c t : Nat) (hn : n < 48) (hc : c ≤ 490000) (ht : t ≤ 5900000) (K : HD P9 l e9 s m9 args below meth c9 Q G A am ab ci pe to 580 (n + 1) n (c + 10) (t + 400)) : HS P9 l e9 s m9 args below meth c9 Q G A am ab ci pe to 263 n c t := by
  obtain ⟨hx, hb, hml, hown, hts, hK, hA, hE, hR⟩ := id hX
  intro zm zb C tn tq tN tf LP D pf np nt a b hI ha hb6 H locs hP hD hS ls hl
  obtain ⟨⟨hIm, hIb, hfc⟩, hC, ⟨htn, htN, htl⟩, hpp, hnp, hnt⟩ := id hI
  have hnp8 : np ≤ 8 := hnp ▸ hIm.1.2.2.1
  have hnt10 : nt ≤ 10 := hnt ▸ hIm.1.2.1.1.1
  refine lv_aload_n hx hb dL_law_263 rfl (lv_at hl 0 rfl) ?_
  refine lv_iload hx hb dL_law_264 (lv_at hl 9 rfl) ?_
  refine lv_iconst (v := nI 3) hx hb dL_law_266 (by decide) ?_
  refine lv_iadd hx hb dL_law_267 ?_
  refine gTop (y := (nI (6 + 5 * n + 3))) (nI_add _ _) ?_
  refine lv_iconst (v := nI 4) hx hb dL_law_268 (by decide) ?_
  refine gCSJ (As := [.ref (G.2.2.2 259), .int (nI (6 + 5 * n + 3)), .int (nI 4)]) (rest := []) hE (c_drawn l G (6 + 5 * n + 3) 4 (by omega) (by omega) (by omega)) (va_cwS 3 hts gL_law_L_drawn rfl rfl rfl (by decide +kernel) ⟨Nat.le_of_ble_eq_true rfl, Nat.le_of_ble_eq_true rfl⟩) ⟨hx, hb, hml, hown, hts⟩ hK hP hD hS hA (gJz ([(ci, .inl (G.2.2.1 0, 4, .inl (nA C))), (pe, .inl (G.2.2.1 1, 8, .inr (.inr (.inr (.inr pf)))))] ++ (dW G am zm ++ (dW G ab zb ++ (tlW G to tn tn tq tN tf ++ (va_pl LP (iF G D))))))) rfl hl rfl (Nat.le_of_ble_eq_true rfl) dL_law_269 ⟨Nat.le_trans (show c + 0 ≤ 500000 by omega) hR.1, Nat.le_trans (show t + 0 ≤ 6000000 by omega) hR.2⟩ (fun x21 H locs hu hP hD hS => ?_)
  have hx21 : x21 < 4 := hu
  have hP : va_P (gD G) vwCl ([(ci, .inl (G.2.2.1 0, 4, .inl (nA C))), (pe, .inl (G.2.2.1 1, 8, .inr (.inr (.inr (.inr pf)))))] ++ (dW G am zm ++ (dW G ab zb ++ (tlW G to tn tn tq tN tf ++ (va_pl LP (iF G D)))))) H := hP
  have hD : va_D A ([(ci, .inl (G.2.2.1 0, 4, .inl (nA C))), (pe, .inl (G.2.2.1 1, 8, .inr (.inr (.inr (.inr pf)))))] ++ (dW G am zm ++ (dW G ab zb ++ (tlW G to tn tn tq tN tf ++ (va_pl LP (iF G D)))))) := hD
  refine W.widen (k := c) (n := t) (by show c + 0 ≤ c; omega) (by show t + 0 ≤ t; omega) ?_
  refine W.eq (g2 := F0 m9 272 ls [.int (nI x21)]) rfl ?_
  refine lv_istore (lv' := [(12, .int (nI x21)), (0, .ref (G.2.2.2 259)), (1, .ref (am 0)), (2, .ref (ab 0)), (3, .ref ci), (4, .ref to), (5, .ref pe), (6, .int (nI np)), (7, .int (nI nt)), (8, .int (nI n)), (9, .int (nI (6 + 5 * n))), (10, .int (nI a)), (11, .int (nI b))]) hx hb dL_law_272 hl (by decide) rfl (fun ls hl => ?_)
  refine lv_aload_n hx hb dL_law_274 rfl (lv_at hl 2 rfl) ?_
  refine lv_iload hx hb dL_law_275 (lv_at hl 0 rfl) ?_
  refine gCVJ (ci := 9) (q0 := 0) (C := RX6) (As := [.int (nI x21)]) (rest := []) hE (k_bar l G am zm x21 hIm (by omega)) (cwV 1 hts gL_law_X6_bar rfl rfl rfl (by decide +kernel) ⟨Nat.le_of_ble_eq_true rfl, Nat.le_of_ble_eq_true rfl⟩) ⟨hx, hb, hml, hown, hts⟩ hK hP hD hS hA (gJ1 [(ci, .inl (G.2.2.1 0, 4, .inl (nA C))), (pe, .inl (G.2.2.1 1, 8, .inr (.inr (.inr (.inr pf)))))]  (dW G am zm) (dW G ab zb ++ (tlW G to tn tn tq tN tf ++ (va_pl LP (iF G D))))) rfl rfl rfl hl rfl (Nat.le_of_ble_eq_true rfl) dL_law_277 ⟨Nat.le_trans (show c + 0 ≤ 500000 by omega) hR.1, Nat.le_trans (show t + 0 ≤ 6000000 by omega) hR.2⟩ (fun u9 H locs hu hP hD hS => ?_)
  obtain ⟨z22, v22⟩ := u9
  obtain ⟨hI22, hf22⟩ := hu
  have hP : va_P (gD G) vwCl ([(ci, .inl (G.2.2.1 0, 4, .inl (nA C))), (pe, .inl (G.2.2.1 1, 8, .inr (.inr (.inr (.inr pf)))))] ++ (dW G am z22 ++ (dW G ab zb ++ (tlW G to tn tn tq tN tf ++ (va_pl LP (iF G D)))))) H := hP
  have hD : va_D A ([(ci, .inl (G.2.2.1 0, 4, .inl (nA C))), (pe, .inl (G.2.2.1 1, 8, .inr (.inr (.inr (.inr pf)))))] ++ (dW G am z22 ++ (dW G ab zb ++ (tlW G to tn tn tq tN tf ++ (va_pl LP (iF G D)))))) := hD
  refine W.widen (k := c) (n := t) (by show c + 0 ≤ c; omega) (by show t + 0 ≤ t; omega) ?_
  refine W.eq (g2 := F0 m9 280 ls [.int v22]) rfl ?_
  refine lv_pop hx hb dL_law_280 rfl ?_
  refine lv_aload_n hx hb dL_law_281 rfl (lv_at hl 3 rfl) ?_
  refine lv_iload hx hb dL_law_282 (lv_at hl 0 rfl) ?_
  refine gCVJ (ci := 9) (q0 := 0) (C := RX6) (As := [.int (nI x21)]) (rest := []) hE (k_bar l G ab zb x21 hIb (by omega)) (cwV 1 hts gL_law_X6_bar rfl rfl rfl (by decide +kernel) ⟨Nat.le_of_ble_eq_true rfl, Nat.le_of_ble_eq_true rfl⟩) ⟨hx, hb, hml, hown, hts⟩ hK hP hD hS hA (gJ2 [(ci, .inl (G.2.2.1 0, 4, .inl (nA C))), (pe, .inl (G.2.2.1 1, 8, .inr (.inr (.inr (.inr pf)))))] (dW G am z22) (dW G ab zb) (tlW G to tn tn tq tN tf ++ (va_pl LP (iF G D)))) rfl rfl rfl hl rfl (Nat.le_of_ble_eq_true rfl) dL_law_284 ⟨Nat.le_trans (show c + 0 ≤ 500000 by omega) hR.1, Nat.le_trans (show t + 0 ≤ 6000000 by omega) hR.2⟩ (fun u9 H locs hu hP hD hS => ?_)
  obtain ⟨z23, v23⟩ := u9
  obtain ⟨hI23, hf23⟩ := hu
  have hP : va_P (gD G) vwCl ([(ci, .inl (G.2.2.1 0, 4, .inl (nA C))), (pe, .inl (G.2.2.1 1, 8, .inr (.inr (.inr (.inr pf)))))] ++ (dW G am z22 ++ (dW G ab z23 ++ (tlW G to tn tn tq tN tf ++ (va_pl LP (iF G D)))))) H := hP
  have hD : va_D A ([(ci, .inl (G.2.2.1 0, 4, .inl (nA C))), (pe, .inl (G.2.2.1 1, 8, .inr (.inr (.inr (.inr pf)))))] ++ (dW G am z22 ++ (dW G ab z23 ++ (tlW G to tn tn tq tN tf ++ (va_pl LP (iF G D)))))) := hD
  refine W.widen (k := c) (n := t) (by show c + 0 ≤ c; omega) (by show t + 0 ≤ t; omega) ?_
  refine W.eq (g2 := F0 m9 287 ls [.int v23]) rfl ?_
  refine lv_pop hx hb dL_law_287 rfl ?_
  refine lv_goto (tgt := 580) hx hb dL_law_288 (by decide) ?_
  refine W.widen (k := (c + 10)) (n := (t + 400)) (by omega) (by omega) ?_
  exact K z22 z23 C tn tq tN tf LP D pf np nt  (RI_same hI hI22 hI23 (hf22.trans ((congrArg (fun q : FC => ((q.1, x21, q.2.2) : FC)) hfc).trans hf23.symm)) ((congrArg (fun q : FC => q.2.2.2.2) hf22).trans rfl) (hnt.trans (congrArg (fun q : FC => q.2.2.2.1) hf22).symm)) _ _ (gtP hP [0, 1] rfl) (gtD hD [0, 1] (by decide) rfl) hS _ (lv_sub hl [1, 2, 3, 4, 5, 6, 7, 8, 9] rfl)
