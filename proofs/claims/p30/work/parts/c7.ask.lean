set_option maxHeartbeats 8000000 in
set_option maxRecDepth 100000 in
/-- a round asks -/
theorem lw_ask {P9 : Program} {l : Launch} {e9 : Env} {s : State} {m9 : MethodId} {args : Array Value} {below : List Frame} {meth : Method} {c9 : Code} {Q : State → Prop} {G : gG} {A : Nat → Prop} {am ab : Nat → Nat} {ci pe to : Nat} (hX : lX P9 s m9 c9 args G A) (n c t : Nat) (hn : n < 48) (hc : c ≤ 490000) (ht : t ≤ 5900000) (K : HD P9 l e9 s m9 args below meth c9 Q G A am ab ci pe to 580 (n + 1) n (c + 10) (t + 400)) : HS P9 l e9 s m9 args below meth c9 Q G A am ab ci pe to 493 n c t := by
  obtain ⟨hx, hb, hml, hown, hts, hK, hA, hE, hR⟩ := id hX
  intro zm zb C tn tq tN tf LP D pf np nt a b hI ha hb6 H locs hP hD hS ls hl
  obtain ⟨⟨hIm, hIb, hfc⟩, hC, ⟨htn, htN, htl⟩, hpp, hnp, hnt⟩ := id hI
  have hnp8 : np ≤ 8 := hnp ▸ hIm.1.2.2.1
  have hnt10 : nt ≤ 10 := hnt ▸ hIm.1.2.1.1.1
  refine lv_iconst (v := nI 1) hx hb dL_law_493 (by decide) ?_
  refine lv_aload_n hx hb dL_law_494 rfl (lv_at hl 0 rfl) ?_
  refine lv_iload hx hb dL_law_495 (lv_at hl 9 rfl) ?_
  refine lv_iconst (v := nI 3) hx hb dL_law_497 (by decide) ?_
  refine lv_iadd hx hb dL_law_498 ?_
  refine gTop (y := (nI (6 + 5 * n + 3))) (nI_add _ _) ?_
  refine lv_bipush (v := nI 63) hx hb dL_law_499 (by decide) ?_
  refine gCSJ (As := [.ref (G.2.2.2 259), .int (nI (6 + 5 * n + 3)), .int (nI 63)]) (rest := [.int (nI 1)]) hE (c_drawn l G (6 + 5 * n + 3) 63 (by omega) (by omega) (by omega)) (va_cwS 3 hts gL_law_L_drawn rfl rfl rfl (by decide +kernel) ⟨Nat.le_of_ble_eq_true rfl, Nat.le_of_ble_eq_true rfl⟩) ⟨hx, hb, hml, hown, hts⟩ hK hP hD hS hA (gJz ([(ci, .inl (G.2.2.1 0, 4, .inl (nA C))), (pe, .inl (G.2.2.1 1, 8, .inr (.inr (.inr (.inr pf)))))] ++ (dW G am zm ++ (dW G ab zb ++ (tlW G to tn tn tq tN tf ++ (va_pl LP (iF G D))))))) rfl hl rfl (Nat.le_of_ble_eq_true rfl) dL_law_501 ⟨Nat.le_trans (show c + 0 ≤ 500000 by omega) hR.1, Nat.le_trans (show t + 0 ≤ 6000000 by omega) hR.2⟩ (fun x21 H locs hu hP hD hS => ?_)
  have hx21 : x21 < 63 := hu
  have hP : va_P (gD G) vwCl ([(ci, .inl (G.2.2.1 0, 4, .inl (nA C))), (pe, .inl (G.2.2.1 1, 8, .inr (.inr (.inr (.inr pf)))))] ++ (dW G am zm ++ (dW G ab zb ++ (tlW G to tn tn tq tN tf ++ (va_pl LP (iF G D)))))) H := hP
  have hD : va_D A ([(ci, .inl (G.2.2.1 0, 4, .inl (nA C))), (pe, .inl (G.2.2.1 1, 8, .inr (.inr (.inr (.inr pf)))))] ++ (dW G am zm ++ (dW G ab zb ++ (tlW G to tn tn tq tN tf ++ (va_pl LP (iF G D)))))) := hD
  refine W.widen (k := c) (n := t) (by show c + 0 ≤ c; omega) (by show t + 0 ≤ t; omega) ?_
  refine W.eq (g2 := F0 m9 504 ls [.int (nI x21), .int (nI 1)]) rfl ?_
  refine lv_iadd hx hb dL_law_504 ?_
  refine gTop (y := (nI (1 + x21))) (nI_add _ _) ?_
  refine lv_istore (lv' := [(12, .int (nI (1 + x21))), (0, .ref (G.2.2.2 259)), (1, .ref (am 0)), (2, .ref (ab 0)), (3, .ref ci), (4, .ref to), (5, .ref pe), (6, .int (nI np)), (7, .int (nI nt)), (8, .int (nI n)), (9, .int (nI (6 + 5 * n))), (10, .int (nI a)), (11, .int (nI b))]) hx hb dL_law_505 hl (by decide) rfl (fun ls hl => ?_)
  refine lv_aload_n hx hb dL_law_507 rfl (lv_at hl 2 rfl) ?_
  refine lv_iload hx hb dL_law_508 (lv_at hl 11 rfl) ?_
  refine lv_iconst (v := nI 4) hx hb dL_law_510 (by decide) ?_
  refine lv_irem hx hb dL_law_511 (by decide) ?_
  refine gTop (y := nI (a % 4)) (pk_rem (by omega) (by decide) (by decide)) ?_
  refine lv_iload hx hb dL_law_512 (lv_at hl 0 rfl) ?_
  refine gCVJ (ci := 9) (q0 := 0) (C := RX6) (As := [.int (nI (a % 4)), .int (nI (1 + x21))]) (rest := []) hE (k_ask l G am zm (a % 4) (1 + x21) hIm (by omega) (by omega) (by omega)) (cwV 2 hts gL_law_X6_ask rfl rfl rfl (by decide +kernel) ⟨Nat.le_of_ble_eq_true rfl, Nat.le_of_ble_eq_true rfl⟩) ⟨hx, hb, hml, hown, hts⟩ hK hP hD hS hA (gJ1 [(ci, .inl (G.2.2.1 0, 4, .inl (nA C))), (pe, .inl (G.2.2.1 1, 8, .inr (.inr (.inr (.inr pf)))))]  (dW G am zm) (dW G ab zb ++ (tlW G to tn tn tq tN tf ++ (va_pl LP (iF G D))))) rfl rfl rfl hl rfl (Nat.le_of_ble_eq_true rfl) dL_law_514 ⟨Nat.le_trans (show c + 0 ≤ 500000 by omega) hR.1, Nat.le_trans (show t + 0 ≤ 6000000 by omega) hR.2⟩ (fun u9 H locs hu hP hD hS => ?_)
  obtain ⟨z22, v22⟩ := u9
  obtain ⟨hI22, hf22, hn22, hy22⟩ := hu
  have hP : va_P (gD G) vwCl ([(ci, .inl (G.2.2.1 0, 4, .inl (nA C))), (pe, .inl (G.2.2.1 1, 8, .inr (.inr (.inr (.inr pf)))))] ++ (dW G am z22 ++ (dW G ab zb ++ (tlW G to tn tn tq tN tf ++ (va_pl LP (iF G D)))))) H := hP
  have hD : va_D A ([(ci, .inl (G.2.2.1 0, 4, .inl (nA C))), (pe, .inl (G.2.2.1 1, 8, .inr (.inr (.inr (.inr pf)))))] ++ (dW G am z22 ++ (dW G ab zb ++ (tlW G to tn tn tq tN tf ++ (va_pl LP (iF G D)))))) := hD
  refine W.widen (k := c) (n := t) (by show c + 0 ≤ c; omega) (by show t + 0 ≤ t; omega) ?_
  refine W.eq (g2 := F0 m9 517 ls [.int v22]) rfl ?_
  rcases hac : acc (zm.1 9) (zm.1 8) 2 (a % 4) (1 + x21) with _ | _
  · refine lv_if_lt (tgt := 524) hx hb dL_law_517 (by decide) (fun _ => ?_) (fun z9 => absurd (by rw [show v22 = -1 from hn22 hac]; decide) z9)
    refine lv_iconst (v := nI 0) hx hb dL_law_524 (by decide) ?_
    refine lv_istore (lv' := [(13, .int (nI 0)), (12, .int (nI (1 + x21))), (0, .ref (G.2.2.2 259)), (1, .ref (am 0)), (2, .ref (ab 0)), (3, .ref ci), (4, .ref to), (5, .ref pe), (6, .int (nI np)), (7, .int (nI nt)), (8, .int (nI n)), (9, .int (nI (6 + 5 * n))), (10, .int (nI a)), (11, .int (nI b))]) hx hb dL_law_525 hl (by decide) rfl (fun ls hl => ?_)
    refine lv_iload hx hb dL_law_527 (lv_at hl 0 rfl) ?_
    refine lv_aload_n hx hb dL_law_529 rfl (lv_at hl 4 rfl) ?_
    refine lv_iload hx hb dL_law_530 (lv_at hl 12 rfl) ?_
    refine lv_iconst (v := nI 4) hx hb dL_law_532 (by decide) ?_
    refine lv_irem hx hb dL_law_533 (by decide) ?_
    refine gTop (y := nI (a % 4)) (pk_rem (by omega) (by decide) (by decide)) ?_
    refine lv_iload hx hb dL_law_534 (lv_at hl 1 rfl) ?_
    refine gCVJ (ci := 9) (q0 := 0) (C := RX6) (As := [.int (nI (a % 4)), .int (nI (1 + x21))]) (rest := [.int (nI 0)]) hE (k_ask l G ab zb (a % 4) (1 + x21) hIb (by omega) (by omega) (by omega)) (cwV 2 hts gL_law_X6_ask rfl rfl rfl (by decide +kernel) ⟨Nat.le_of_ble_eq_true rfl, Nat.le_of_ble_eq_true rfl⟩) ⟨hx, hb, hml, hown, hts⟩ hK hP hD hS hA (gJ2 [(ci, .inl (G.2.2.1 0, 4, .inl (nA C))), (pe, .inl (G.2.2.1 1, 8, .inr (.inr (.inr (.inr pf)))))] (dW G am z22) (dW G ab zb) (tlW G to tn tn tq tN tf ++ (va_pl LP (iF G D)))) rfl rfl rfl hl rfl (Nat.le_of_ble_eq_true rfl) dL_law_536 ⟨Nat.le_trans (show c + 0 ≤ 500000 by omega) hR.1, Nat.le_trans (show t + 0 ≤ 6000000 by omega) hR.2⟩ (fun u9 H locs hu hP hD hS => ?_)
    obtain ⟨z23, v23⟩ := u9
    obtain ⟨hI23, hf23, hn23, hy23⟩ := hu
    have hP : va_P (gD G) vwCl ([(ci, .inl (G.2.2.1 0, 4, .inl (nA C))), (pe, .inl (G.2.2.1 1, 8, .inr (.inr (.inr (.inr pf)))))] ++ (dW G am z22 ++ (dW G ab z23 ++ (tlW G to tn tn tq tN tf ++ (va_pl LP (iF G D)))))) H := hP
    have hD : va_D A ([(ci, .inl (G.2.2.1 0, 4, .inl (nA C))), (pe, .inl (G.2.2.1 1, 8, .inr (.inr (.inr (.inr pf)))))] ++ (dW G am z22 ++ (dW G ab z23 ++ (tlW G to tn tn tq tN tf ++ (va_pl LP (iF G D)))))) := hD
    refine W.widen (k := c) (n := t) (by show c + 0 ≤ c; omega) (by show t + 0 ≤ t; omega) ?_
    refine W.eq (g2 := F0 m9 539 ls [.int v23, .int (nI 0)]) rfl ?_
    have hacb : acc (zb.1 9) (zb.1 8) 2 (a % 4) (1 + x21) = false := (congrArg (fun q : FC => acc q.2.2.2.2.2.2.2.2 q.2.2.2.2.2.2.2.1 2 (a % 4) (1 + x21)) hfc).symm.trans hac
    refine lv_if_lt (tgt := 546) hx hb dL_law_539 (by decide) (fun _ => ?_) (fun z9 => absurd (by rw [show v23 = -1 from hn23 hacb]; decide) z9)
    refine lv_iconst (v := nI 0) hx hb dL_law_546 (by decide) ?_
    refine gN_eq (tgt := 552) hx hb dL_law_547 (by decide) (by decide) (by decide) (fun c24 => ?_) (fun c24 => absurd c24 (by omega))
    refine lv_iload hx hb dL_law_552 (lv_at hl 0 rfl) ?_
    refine gN_eq0 (tgt := 580) hx hb dL_law_554 (by decide) (by decide) (fun c25 => ?_) (fun c25 => absurd c25 (by omega))
    refine W.widen (k := (c + 10)) (n := (t + 400)) (by omega) (by omega) ?_
    exact K z22 z23 C tn tq tN tf LP D pf np nt (RI_gen hI hI22 hI23 (hf22.trans ((congrArg (fun q : FC => ((q.1, q.2.1, q.2.2.1, q.2.2.2.1, q.2.2.2.2.1, q.2.2.2.2.2.1, q.2.2.2.2.2.2.1, q.2.2.2.2.2.2.2.1, hrT q.2.2.2.2.2.2.2.2 q.2.2.2.2.2.2.2.1 2 (a % 4) (1 + x21)) : FC)) hfc).trans hf23.symm)) (fun i9 hi9 => by rw [show z22.1 8 = zm.1 8 from (congrArg (fun q : FC => q.2.2.2.2.2.2.2.1) hf22).trans rfl]; exact hC i9 hi9) ((congrArg (fun q : FC => q.2.2.2.2.1) hf22).trans rfl) ((congrArg (fun q : FC => q.2.2.2.2.2.1) hf22).trans rfl) ((congrArg (fun q : FC => q.2.2.2.2.2.2.1) hf22).trans rfl) (fun y9 j9 h9 => by rw [show z22.1 9 = hrT (zm.1 9) (zm.1 8) 2 (a % 4) (1 + x21) from (congrArg (fun q : FC => q.2.2.2.2.2.2.2.2) hf22).trans rfl]; exact hrT_bit h9) (hnt.trans (congrArg (fun q : FC => q.2.2.2.1) hf22).symm)) _ _ (gtP hP [0, 1] rfl) (gtD hD [0, 1] (by decide) rfl) hS _ (lv_sub hl [2, 3, 4, 5, 6, 7, 8, 9, 10] rfl)
  · obtain ⟨v9, hv9, e9⟩ := hy22 hac
    refine gTop (y := nI v9) e9 ?_
    refine gN_lt0 hx hb dL_law_517 (by omega) ?_ 524 (by decide)
    refine lv_iconst (v := nI 1) hx hb dL_law_520 (by decide) ?_
    refine lv_goto (tgt := 525) hx hb dL_law_521 (by decide) ?_
    refine lv_istore (lv' := [(13, .int (nI 1)), (12, .int (nI (1 + x21))), (0, .ref (G.2.2.2 259)), (1, .ref (am 0)), (2, .ref (ab 0)), (3, .ref ci), (4, .ref to), (5, .ref pe), (6, .int (nI np)), (7, .int (nI nt)), (8, .int (nI n)), (9, .int (nI (6 + 5 * n))), (10, .int (nI a)), (11, .int (nI b))]) hx hb dL_law_525 hl (by decide) rfl (fun ls hl => ?_)
    refine lv_iload hx hb dL_law_527 (lv_at hl 0 rfl) ?_
    refine lv_aload_n hx hb dL_law_529 rfl (lv_at hl 4 rfl) ?_
    refine lv_iload hx hb dL_law_530 (lv_at hl 12 rfl) ?_
    refine lv_iconst (v := nI 4) hx hb dL_law_532 (by decide) ?_
    refine lv_irem hx hb dL_law_533 (by decide) ?_
    refine gTop (y := nI (a % 4)) (pk_rem (by omega) (by decide) (by decide)) ?_
    refine lv_iload hx hb dL_law_534 (lv_at hl 1 rfl) ?_
    refine gCVJ (ci := 9) (q0 := 0) (C := RX6) (As := [.int (nI (a % 4)), .int (nI (1 + x21))]) (rest := [.int (nI 1)]) hE (k_ask l G ab zb (a % 4) (1 + x21) hIb (by omega) (by omega) (by omega)) (cwV 2 hts gL_law_X6_ask rfl rfl rfl (by decide +kernel) ⟨Nat.le_of_ble_eq_true rfl, Nat.le_of_ble_eq_true rfl⟩) ⟨hx, hb, hml, hown, hts⟩ hK hP hD hS hA (gJ2 [(ci, .inl (G.2.2.1 0, 4, .inl (nA C))), (pe, .inl (G.2.2.1 1, 8, .inr (.inr (.inr (.inr pf)))))] (dW G am z22) (dW G ab zb) (tlW G to tn tn tq tN tf ++ (va_pl LP (iF G D)))) rfl rfl rfl hl rfl (Nat.le_of_ble_eq_true rfl) dL_law_536 ⟨Nat.le_trans (show c + 0 ≤ 500000 by omega) hR.1, Nat.le_trans (show t + 0 ≤ 6000000 by omega) hR.2⟩ (fun u9 H locs hu hP hD hS => ?_)
    obtain ⟨z27, v27⟩ := u9
    obtain ⟨hI27, hf27, hn27, hy27⟩ := hu
    have hP : va_P (gD G) vwCl ([(ci, .inl (G.2.2.1 0, 4, .inl (nA C))), (pe, .inl (G.2.2.1 1, 8, .inr (.inr (.inr (.inr pf)))))] ++ (dW G am z22 ++ (dW G ab z27 ++ (tlW G to tn tn tq tN tf ++ (va_pl LP (iF G D)))))) H := hP
    have hD : va_D A ([(ci, .inl (G.2.2.1 0, 4, .inl (nA C))), (pe, .inl (G.2.2.1 1, 8, .inr (.inr (.inr (.inr pf)))))] ++ (dW G am z22 ++ (dW G ab z27 ++ (tlW G to tn tn tq tN tf ++ (va_pl LP (iF G D)))))) := hD
    refine W.widen (k := c) (n := t) (by show c + 0 ≤ c; omega) (by show t + 0 ≤ t; omega) ?_
    refine W.eq (g2 := F0 m9 539 ls [.int v27, .int (nI 1)]) rfl ?_
    have hacb : acc (zb.1 9) (zb.1 8) 2 (a % 4) (1 + x21) = true := (congrArg (fun q : FC => acc q.2.2.2.2.2.2.2.2 q.2.2.2.2.2.2.2.1 2 (a % 4) (1 + x21)) hfc).symm.trans hac
    obtain ⟨v8, hv8, e8⟩ := hy27 hacb
    refine gTop (y := nI v8) e8 ?_
    refine gN_lt0 hx hb dL_law_539 (by omega) ?_ 546 (by decide)
    refine lv_iconst (v := nI 1) hx hb dL_law_542 (by decide) ?_
    refine lv_goto (tgt := 547) hx hb dL_law_543 (by decide) ?_
    refine gN_eq (tgt := 552) hx hb dL_law_547 (by decide) (by decide) (by decide) (fun c29 => ?_) (fun c29 => absurd c29 (by omega))
    refine lv_iload hx hb dL_law_552 (lv_at hl 0 rfl) ?_
    refine gN_eq0 (tgt := 580) hx hb dL_law_554 (by decide) (by decide) (fun c30 => absurd c30 (by omega)) (fun c30 => ?_)
    refine lv_aload hx hb dL_law_557 (lv_at hl 6 rfl) ?_
    refine lv_iconst (v := nI 2) hx hb dL_law_559 (by decide) ?_
    refine gN_newa (n := 2) hx hb (hts (.arrayClass .int) (by decide +kernel)) hK hP hD hS hA (by decide) (by decide) (Nat.le_trans (show c + 1 ≤ 500000 by omega) hR.1) (Nat.le_trans (show t + 2 ≤ 6000000 by omega) hR.2) dL_law_560 (fun q31 H hP hD hS => ?_)
    have hP := va_P.swap hP
    have hD := va_D.swap hD
    have hP : va_P (gD G) vwCl ([(ci, .inl (G.2.2.1 0, 4, .inl (nA C))), (pe, .inl (G.2.2.1 1, 8, .inr (.inr (.inr (.inr pf))))), (q31, .inl (G.2.2.1 0, 2, .inl (nA (fun _ => 0))))] ++ (dW G am z22 ++ (dW G ab z27 ++ (tlW G to tn tn tq tN tf ++ (va_pl LP (iF G D)))))) H := hP
    have hD : va_D A ([(ci, .inl (G.2.2.1 0, 4, .inl (nA C))), (pe, .inl (G.2.2.1 1, 8, .inr (.inr (.inr (.inr pf))))), (q31, .inl (G.2.2.1 0, 2, .inl (nA (fun _ => 0))))] ++ (dW G am z22 ++ (dW G ab z27 ++ (tlW G to tn tn tq tN tf ++ (va_pl LP (iF G D)))))) := hD
    refine W.widen (k := (c + 1)) (n := (t + 2)) (by show c + 1 ≤ (c + 1); omega) (by show t + 2 ≤ (t + 2); omega) ?_
    refine lv_dup hx hb dL_law_562 rfl ?_
    refine lv_iconst (v := nI 0) hx hb dL_law_563 (by decide) ?_
    refine lv_iload hx hb dL_law_564 (lv_at hl 12 rfl) ?_
    refine lv_iconst (v := nI 4) hx hb dL_law_566 (by decide) ?_
    refine lv_irem hx hb dL_law_567 (by decide) ?_
    refine gTop (y := nI (a % 4)) (pk_rem (by omega) (by decide) (by decide)) ?_
    refine gN_iast hx hb hK hP hD hS 2 0 rfl rfl (by omega) (by decide) dL_law_568 (fun H locs hP hD hS => ?_)
    have hP : va_P (gD G) vwCl ([(ci, .inl (G.2.2.1 0, 4, .inl (nA C))), (pe, .inl (G.2.2.1 1, 8, .inr (.inr (.inr (.inr pf))))), (q31, .inl (G.2.2.1 0, 2, .inl (nA (va_up (fun _ => 0) 0 (a % 4)))))] ++ (dW G am z22 ++ (dW G ab z27 ++ (tlW G to tn tn tq tN tf ++ (va_pl LP (iF G D)))))) H := hP
    have hD : va_D A ([(ci, .inl (G.2.2.1 0, 4, .inl (nA C))), (pe, .inl (G.2.2.1 1, 8, .inr (.inr (.inr (.inr pf))))), (q31, .inl (G.2.2.1 0, 2, .inl (nA (va_up (fun _ => 0) 0 (a % 4)))))] ++ (dW G am z22 ++ (dW G ab z27 ++ (tlW G to tn tn tq tN tf ++ (va_pl LP (iF G D)))))) := hD
    refine lv_dup hx hb dL_law_569 rfl ?_
    refine lv_iconst (v := nI 1) hx hb dL_law_570 (by decide) ?_
    refine lv_iload hx hb dL_law_571 (lv_at hl 1 rfl) ?_
    refine gN_iast hx hb hK hP hD hS 2 0 rfl rfl (by omega) (by decide) dL_law_573 (fun H locs hP hD hS => ?_)
    have hP : va_P (gD G) vwCl ([(ci, .inl (G.2.2.1 0, 4, .inl (nA C))), (pe, .inl (G.2.2.1 1, 8, .inr (.inr (.inr (.inr pf))))), (q31, .inl (G.2.2.1 0, 2, .inl (nA (va_up (va_up (fun _ => 0) 0 (a % 4)) 1 (1 + x21)))))] ++ (dW G am z22 ++ (dW G ab z27 ++ (tlW G to tn tn tq tN tf ++ (va_pl LP (iF G D)))))) H := hP
    have hD : va_D A ([(ci, .inl (G.2.2.1 0, 4, .inl (nA C))), (pe, .inl (G.2.2.1 1, 8, .inr (.inr (.inr (.inr pf))))), (q31, .inl (G.2.2.1 0, 2, .inl (nA (va_up (va_up (fun _ => 0) 0 (a % 4)) 1 (1 + x21)))))] ++ (dW G am z22 ++ (dW G ab z27 ++ (tlW G to tn tn tq tN tf ++ (va_pl LP (iF G D)))))) := hD
    have hP : va_P (gD G) vwCl (([(ci, .inl (G.2.2.1 0, 4, .inl (nA C))), (pe, .inl (G.2.2.1 1, 8, .inr (.inr (.inr (.inr pf)))))] ++ [(q31, .inl (G.2.2.1 0, 2, .inl (nA (va_up (va_up (fun _ => 0) 0 (a % 4)) 1 (1 + x21)))))]) ++ (dW G am z22 ++ (dW G ab z27 ++ (tlW G to tn tn tq tN tf ++ va_pl LP (iF G D))))) H := hP
    have hD : va_D A (([(ci, .inl (G.2.2.1 0, 4, .inl (nA C))), (pe, .inl (G.2.2.1 1, 8, .inr (.inr (.inr (.inr pf)))))] ++ [(q31, .inl (G.2.2.1 0, 2, .inl (nA (va_up (va_up (fun _ => 0) 0 (a % 4)) 1 (1 + x21)))))]) ++ (dW G am z22 ++ (dW G ab z27 ++ (tlW G to tn tn tq tN tf ++ va_pl LP (iF G D))))) := hD
    have hqn : q31 ∉ LP := gpoolY hD
    have hP := vaP_perm (gpoolP hqn) hP
    have hD := vaD_perm (gpoolP hqn) hD
    rw [iF_up] at hP hD
    have hP : va_P (gD G) vwCl ([(ci, .inl (G.2.2.1 0, 4, .inl (nA C))), (pe, .inl (G.2.2.1 1, 8, .inr (.inr (.inr (.inr pf)))))] ++ (dW G am z22 ++ (dW G ab z27 ++ (tlW G to tn tn tq tN tf ++ (va_pl (LP ++ [q31]) (iF G (va_up D q31 (va_up (va_up (fun _ => 0) 0 (a % 4)) 1 (1 + x21))))))))) H := hP
    have hD : va_D A ([(ci, .inl (G.2.2.1 0, 4, .inl (nA C))), (pe, .inl (G.2.2.1 1, 8, .inr (.inr (.inr (.inr pf)))))] ++ (dW G am z22 ++ (dW G ab z27 ++ (tlW G to tn tn tq tN tf ++ (va_pl (LP ++ [q31]) (iF G (va_up D q31 (va_up (va_up (fun _ => 0) 0 (a % 4)) 1 (1 + x21))))))))) := hD
    refine gCFJ (ci := 2) (q0 := 0) (C := RJx4a65c) (As := [.ref q31]) (rest := []) hE (k_L_addA l G to tn tn tq tN tf q31 (LP ++ [q31]) (va_up D q31 (va_up (va_up (fun _ => 0) 0 (a % 4)) 1 (1 + x21))) (List.mem_append_right _ (List.mem_singleton.mpr rfl)) (by omega) (by omega) htN (fun i9 hi9 => by obtain ⟨y9, h1, h2, _⟩ := htl i9 hi9; exact ⟨y9, h1, List.mem_append_left _ h2⟩)) (va_cwF 1 hts gL_law_Jx4a65c_add_9ea2d_f94Jx4a65c rfl rfl rfl (hE.face 2 rfl) (by decide +kernel) ⟨Nat.le_of_ble_eq_true rfl, Nat.le_of_ble_eq_true rfl⟩) (hK.1 2 _ rfl).2 ⟨hx, hb, hml, hown, hts⟩ hK hP hD hS hA (gJ3e [(ci, .inl (G.2.2.1 0, 4, .inl (nA C))), (pe, .inl (G.2.2.1 1, 8, .inr (.inr (.inr (.inr pf)))))] (dW G am z22) (dW G ab z27) (tlW G to tn tn tq tN tf ++ (va_pl (LP ++ [q31]) (iF G (va_up D q31 (va_up (va_up (fun _ => 0) 0 (a % 4)) 1 (1 + x21))))))) rfl rfl rfl hl rfl (Nat.le_of_ble_eq_true rfl) dL_law_574 ⟨Nat.le_trans (show (c + 1) + 1 ≤ 500000 by omega) hR.1, Nat.le_trans (show (t + 2) + 300 ≤ 6000000 by omega) hR.2⟩ (fun u9 H locs hu hP hD hS => ?_)
    obtain ⟨q32, N32, f32⟩ := u9
    obtain ⟨hN32, ho32, hv32⟩ := hu
    have hN32 : tlN (tn + 1) N32 := hN32
    have ho32 : ∀ j, j < tn → f32 j = tf j := ho32
    have hv32 : f32 tn = some q31 := hv32
    have hP : va_P (gD G) vwCl ([(ci, .inl (G.2.2.1 0, 4, .inl (nA C))), (pe, .inl (G.2.2.1 1, 8, .inr (.inr (.inr (.inr pf)))))] ++ (dW G am z22 ++ (dW G ab z27 ++ (tlW G to (tn + 1) (tn + 1) q32 N32 f32 ++ (va_pl (LP ++ [q31]) (iF G (va_up D q31 (va_up (va_up (fun _ => 0) 0 (a % 4)) 1 (1 + x21))))))))) H := hP
    have hD : va_D A ([(ci, .inl (G.2.2.1 0, 4, .inl (nA C))), (pe, .inl (G.2.2.1 1, 8, .inr (.inr (.inr (.inr pf)))))] ++ (dW G am z22 ++ (dW G ab z27 ++ (tlW G to (tn + 1) (tn + 1) q32 N32 f32 ++ (va_pl (LP ++ [q31]) (iF G (va_up D q31 (va_up (va_up (fun _ => 0) 0 (a % 4)) 1 (1 + x21))))))))) := hD
    refine W.widen (k := (c + 2)) (n := (t + 302)) (by show (c + 1) + 1 ≤ (c + 2); omega) (by show (t + 2) + 300 ≤ (t + 302); omega) ?_
    refine W.eq (g2 := F0 m9 579 ls [.int (nI 1)]) rfl ?_
    refine lv_pop hx hb dL_law_579 rfl ?_
    refine W.widen (k := (c + 10)) (n := (t + 400)) (by omega) (by omega) ?_
    exact K z22 z27 C (tn + 1) q32 N32 f32 (LP ++ [q31]) (va_up D q31 (va_up (va_up (fun _ => 0) 0 (a % 4)) 1 (1 + x21))) pf np nt (RI_ask hI hI22 hI27 (hf22.trans ((congrArg (fun q : FC => ((q.1, q.2.1, q.2.2.1, q.2.2.2.1, q.2.2.2.2.1, q.2.2.2.2.2.1, q.2.2.2.2.2.2.1, q.2.2.2.2.2.2.2.1, hrT q.2.2.2.2.2.2.2.2 q.2.2.2.2.2.2.2.1 2 (a % 4) (1 + x21)) : FC)) hfc).trans hf27.symm)) hf22 hac (by omega) (by omega) hqn rfl rfl hN32 ho32 hv32) _ _ (gtP hP [0, 1] rfl) (gtD hD [0, 1] (by decide) rfl) hS _ (lv_sub hl [2, 3, 4, 5, 6, 7, 8, 9, 10] rfl)
