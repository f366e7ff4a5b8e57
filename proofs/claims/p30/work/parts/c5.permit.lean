set_option maxHeartbeats 8000000 in
set_option maxRecDepth 100000 in
/-- a round gives a permit -/
theorem lw_permit {P9 : Program} {l : Launch} {e9 : Env} {s : State} {m9 : MethodId} {args : Array Value} {below : List Frame} {meth : Method} {c9 : Code} {Q : State → Prop} {G : gG} {A : Nat → Prop} {am ab : Nat → Nat} {ci pe to : Nat} (hX : lX P9 s m9 c9 args G A) (n c t : Nat) (hn : n < 48) (hc : c ≤ 490000) (ht : t ≤ 5900000) (K : HD P9 l e9 s m9 args below meth c9 Q G A am ab ci pe to 580 (n + 1) n (c + 10) (t + 400)) : HS P9 l e9 s m9 args below meth c9 Q G A am ab ci pe to 333 n c t := by
  obtain ⟨hx, hb, hml, hown, hts, hK, hA, hE, hR⟩ := id hX
  intro zm zb C tn tq tN tf LP D pf np nt a b hI ha hb6 H locs hP hD hS ls hl
  obtain ⟨⟨hIm, hIb, hfc⟩, hC, ⟨htn, htN, htl⟩, hpp, hnp, hnt⟩ := id hI
  have hnp8 : np ≤ 8 := hnp ▸ hIm.1.2.2.1
  have hnt10 : nt ≤ 10 := hnt ▸ hIm.1.2.1.1.1
  refine lv_iload hx hb dL_law_333 (lv_at hl 10 rfl) ?_
  refine lv_iload hx hb dL_law_335 (lv_at hl 11 rfl) ?_
  refine gN_eq (tgt := 580) hx hb dL_law_337 (by decide) (by omega) (by omega) (fun c21 => ?_) (fun c21 => ?_)
  · refine W.widen (k := (c + 10)) (n := (t + 400)) (by omega) (by omega) ?_
    exact K zm zb C tn tq tN tf LP D pf np nt (RI_next hI) _ _ (gtP hP [0, 1] rfl) (gtD hD [0, 1] (by decide) rfl) hS _ (lv_sub hl [0, 1, 2, 3, 4, 5, 6, 7, 8] rfl)
  · refine lv_iload hx hb dL_law_340 (lv_at hl 6 rfl) ?_
    refine lv_bipush (v := nI 8) hx hb dL_law_342 (by decide) ?_
    refine gN_ge (tgt := 580) hx hb dL_law_344 (by decide) (by omega) (by decide) (fun c22 => ?_) (fun c22 => ?_)
    · refine W.widen (k := (c + 10)) (n := (t + 400)) (by omega) (by omega) ?_
      exact K zm zb C tn tq tN tf LP D pf np nt (RI_next hI) _ _ (gtP hP [0, 1] rfl) (gtD hD [0, 1] (by decide) rfl) hS _ (lv_sub hl [0, 1, 2, 3, 4, 5, 6, 7, 8] rfl)
    · refine lv_aload hx hb dL_law_347 (lv_at hl 5 rfl) ?_
      refine lv_iload hx hb dL_law_349 (lv_at hl 6 rfl) ?_
      refine lv_iconst (v := nI 2) hx hb dL_law_351 (by decide) ?_
      refine gN_newa (n := 2) hx hb (hts (.arrayClass .int) (by decide +kernel)) hK hP hD hS hA (by decide) (by decide) (Nat.le_trans (show c + 1 ≤ 500000 by omega) hR.1) (Nat.le_trans (show t + 2 ≤ 6000000 by omega) hR.2) dL_law_352 (fun q23 H hP hD hS => ?_)
      have hP := va_P.swap hP
      have hD := va_D.swap hD
      have hP : va_P (gD G) vwCl ([(ci, .inl (G.2.2.1 0, 4, .inl (nA C))), (pe, .inl (G.2.2.1 1, 8, .inr (.inr (.inr (.inr pf))))), (q23, .inl (G.2.2.1 0, 2, .inl (nA (fun _ => 0))))] ++ (dW G am zm ++ (dW G ab zb ++ (tlW G to tn tn tq tN tf ++ (va_pl LP (iF G D)))))) H := hP
      have hD : va_D A ([(ci, .inl (G.2.2.1 0, 4, .inl (nA C))), (pe, .inl (G.2.2.1 1, 8, .inr (.inr (.inr (.inr pf))))), (q23, .inl (G.2.2.1 0, 2, .inl (nA (fun _ => 0))))] ++ (dW G am zm ++ (dW G ab zb ++ (tlW G to tn tn tq tN tf ++ (va_pl LP (iF G D)))))) := hD
      refine W.widen (k := (c + 1)) (n := (t + 2)) (by show c + 1 ≤ (c + 1); omega) (by show t + 2 ≤ (t + 2); omega) ?_
      refine lv_dup hx hb dL_law_354 rfl ?_
      refine lv_iconst (v := nI 0) hx hb dL_law_355 (by decide) ?_
      refine lv_iload hx hb dL_law_356 (lv_at hl 10 rfl) ?_
      refine gN_iast hx hb hK hP hD hS 2 0 rfl rfl (by omega) (by decide) dL_law_358 (fun H locs hP hD hS => ?_)
      have hP : va_P (gD G) vwCl ([(ci, .inl (G.2.2.1 0, 4, .inl (nA C))), (pe, .inl (G.2.2.1 1, 8, .inr (.inr (.inr (.inr pf))))), (q23, .inl (G.2.2.1 0, 2, .inl (nA (va_up (fun _ => 0) 0 a))))] ++ (dW G am zm ++ (dW G ab zb ++ (tlW G to tn tn tq tN tf ++ (va_pl LP (iF G D)))))) H := hP
      have hD : va_D A ([(ci, .inl (G.2.2.1 0, 4, .inl (nA C))), (pe, .inl (G.2.2.1 1, 8, .inr (.inr (.inr (.inr pf))))), (q23, .inl (G.2.2.1 0, 2, .inl (nA (va_up (fun _ => 0) 0 a))))] ++ (dW G am zm ++ (dW G ab zb ++ (tlW G to tn tn tq tN tf ++ (va_pl LP (iF G D)))))) := hD
      refine lv_dup hx hb dL_law_359 rfl ?_
      refine lv_iconst (v := nI 1) hx hb dL_law_360 (by decide) ?_
      refine lv_iload hx hb dL_law_361 (lv_at hl 11 rfl) ?_
      refine gN_iast hx hb hK hP hD hS 2 0 rfl rfl (by omega) (by decide) dL_law_363 (fun H locs hP hD hS => ?_)
      have hP : va_P (gD G) vwCl ([(ci, .inl (G.2.2.1 0, 4, .inl (nA C))), (pe, .inl (G.2.2.1 1, 8, .inr (.inr (.inr (.inr pf))))), (q23, .inl (G.2.2.1 0, 2, .inl (nA (va_up (va_up (fun _ => 0) 0 a) 1 b))))] ++ (dW G am zm ++ (dW G ab zb ++ (tlW G to tn tn tq tN tf ++ (va_pl LP (iF G D)))))) H := hP
      have hD : va_D A ([(ci, .inl (G.2.2.1 0, 4, .inl (nA C))), (pe, .inl (G.2.2.1 1, 8, .inr (.inr (.inr (.inr pf))))), (q23, .inl (G.2.2.1 0, 2, .inl (nA (va_up (va_up (fun _ => 0) 0 a) 1 b))))] ++ (dW G am zm ++ (dW G ab zb ++ (tlW G to tn tn tq tN tf ++ (va_pl LP (iF G D)))))) := hD
      refine gR_astX (i := np) hx hb hE hK hP hD hS 1 (t := .int) (cR := G.2.2.1 0) rfl hE.2.1.1.1 (hK.2 0 _ rfl).2 1 rfl 2 rfl (by omega) (by decide) dL_law_364 (fun H locs hP hD hS => ?_)
      have hP : va_P (gD G) vwCl ([(ci, .inl (G.2.2.1 0, 4, .inl (nA C))), (pe, .inl (G.2.2.1 1, 8, .inr (.inr (.inr (.inr (va_up pf np (some q23))))))), (q23, .inl (G.2.2.1 0, 2, .inl (nA (va_up (va_up (fun _ => 0) 0 a) 1 b))))] ++ (dW G am zm ++ (dW G ab zb ++ (tlW G to tn tn tq tN tf ++ (va_pl LP (iF G D)))))) H := hP
      have hD : va_D A ([(ci, .inl (G.2.2.1 0, 4, .inl (nA C))), (pe, .inl (G.2.2.1 1, 8, .inr (.inr (.inr (.inr (va_up pf np (some q23))))))), (q23, .inl (G.2.2.1 0, 2, .inl (nA (va_up (va_up (fun _ => 0) 0 a) 1 b))))] ++ (dW G am zm ++ (dW G ab zb ++ (tlW G to tn tn tq tN tf ++ (va_pl LP (iF G D)))))) := hD
      have hP : va_P (gD G) vwCl (([(ci, .inl (G.2.2.1 0, 4, .inl (nA C))), (pe, .inl (G.2.2.1 1, 8, .inr (.inr (.inr (.inr (va_up pf np (some q23)))))))] ++ [(q23, .inl (G.2.2.1 0, 2, .inl (nA (va_up (va_up (fun _ => 0) 0 a) 1 b))))]) ++ (dW G am zm ++ (dW G ab zb ++ (tlW G to tn tn tq tN tf ++ va_pl LP (iF G D))))) H := hP
      have hD : va_D A (([(ci, .inl (G.2.2.1 0, 4, .inl (nA C))), (pe, .inl (G.2.2.1 1, 8, .inr (.inr (.inr (.inr (va_up pf np (some q23)))))))] ++ [(q23, .inl (G.2.2.1 0, 2, .inl (nA (va_up (va_up (fun _ => 0) 0 a) 1 b))))]) ++ (dW G am zm ++ (dW G ab zb ++ (tlW G to tn tn tq tN tf ++ va_pl LP (iF G D))))) := hD
      have hqn : q23 ∉ LP := gpoolY hD
      have hP := vaP_perm (gpoolP hqn) hP
      have hD := vaD_perm (gpoolP hqn) hD
      rw [iF_up] at hP hD
      have hP : va_P (gD G) vwCl ([(ci, .inl (G.2.2.1 0, 4, .inl (nA C))), (pe, .inl (G.2.2.1 1, 8, .inr (.inr (.inr (.inr (va_up pf np (some q23)))))))] ++ (dW G am zm ++ (dW G ab zb ++ (tlW G to tn tn tq tN tf ++ (va_pl (LP ++ [q23]) (iF G (va_up D q23 (va_up (va_up (fun _ => 0) 0 a) 1 b)))))))) H := hP
      have hD : va_D A ([(ci, .inl (G.2.2.1 0, 4, .inl (nA C))), (pe, .inl (G.2.2.1 1, 8, .inr (.inr (.inr (.inr (va_up pf np (some q23)))))))] ++ (dW G am zm ++ (dW G ab zb ++ (tlW G to tn tn tq tN tf ++ (va_pl (LP ++ [q23]) (iF G (va_up D q23 (va_up (va_up (fun _ => 0) 0 a) 1 b)))))))) := hD
      have hpb : zb.2.1 4 = zm.2.1 4 := (congrArg (fun q : FC => q.2.2.2.2.2.2.1) hfc).symm
      refine lv_aload_n hx hb dL_law_365 rfl (lv_at hl 1 rfl) ?_
      refine lv_iload hx hb dL_law_366 (lv_at hl 10 rfl) ?_
      refine lv_iload hx hb dL_law_368 (lv_at hl 11 rfl) ?_
      refine lv_sipush (v := nI 999) hx hb dL_law_370 (by decide) ?_
      refine gCVJ (ci := 9) (q0 := 0) (C := RX6) (As := [.int (nI a), .int (nI b), .int (nI 999)]) (rest := []) hE (k_permit l G am zm a b hIm (by omega) (by omega) (by omega) (by omega)) (cwV 3 hts gL_law_X6_permit rfl rfl rfl (by decide +kernel) ⟨Nat.le_of_ble_eq_true rfl, Nat.le_of_ble_eq_true rfl⟩) ⟨hx, hb, hml, hown, hts⟩ hK hP hD hS hA (gJ1 [(ci, .inl (G.2.2.1 0, 4, .inl (nA C))), (pe, .inl (G.2.2.1 1, 8, .inr (.inr (.inr (.inr (va_up pf np (some q23)))))))]  (dW G am zm) (dW G ab zb ++ (tlW G to tn tn tq tN tf ++ (va_pl (LP ++ [q23]) (iF G (va_up D q23 (va_up (va_up (fun _ => 0) 0 a) 1 b))))))) rfl rfl rfl hl rfl (Nat.le_of_ble_eq_true rfl) dL_law_373 ⟨Nat.le_trans (show (c + 1) + 0 ≤ 500000 by omega) hR.1, Nat.le_trans (show (t + 2) + 0 ≤ 6000000 by omega) hR.2⟩ (fun z24 H locs hu hP hD hS => ?_)
      obtain ⟨hI24, hf24⟩ := hu
      have hP : va_P (gD G) vwCl ([(ci, .inl (G.2.2.1 0, 4, .inl (nA C))), (pe, .inl (G.2.2.1 1, 8, .inr (.inr (.inr (.inr (va_up pf np (some q23)))))))] ++ (dW G am z24 ++ (dW G ab zb ++ (tlW G to tn tn tq tN tf ++ (va_pl (LP ++ [q23]) (iF G (va_up D q23 (va_up (va_up (fun _ => 0) 0 a) 1 b)))))))) H := hP
      have hD : va_D A ([(ci, .inl (G.2.2.1 0, 4, .inl (nA C))), (pe, .inl (G.2.2.1 1, 8, .inr (.inr (.inr (.inr (va_up pf np (some q23)))))))] ++ (dW G am z24 ++ (dW G ab zb ++ (tlW G to tn tn tq tN tf ++ (va_pl (LP ++ [q23]) (iF G (va_up D q23 (va_up (va_up (fun _ => 0) 0 a) 1 b)))))))) := hD
      refine W.widen (k := (c + 1)) (n := (t + 2)) (by show (c + 1) + 0 ≤ (c + 1); omega) (by show (t + 2) + 0 ≤ (t + 2); omega) ?_
      refine W.eq (g2 := F0 m9 376 ls [.int (nI (zm.2.1 4))]) rfl ?_
      refine lv_pop hx hb dL_law_376 rfl ?_
      refine lv_aload_n hx hb dL_law_377 rfl (lv_at hl 2 rfl) ?_
      refine lv_iload hx hb dL_law_378 (lv_at hl 10 rfl) ?_
      refine lv_iload hx hb dL_law_380 (lv_at hl 11 rfl) ?_
      refine lv_sipush (v := nI 999) hx hb dL_law_382 (by decide) ?_
      refine gCVJ (ci := 9) (q0 := 0) (C := RX6) (As := [.int (nI a), .int (nI b), .int (nI 999)]) (rest := []) hE (k_permit l G ab zb a b hIb (by omega) (by omega) (by omega) (by omega)) (cwV 3 hts gL_law_X6_permit rfl rfl rfl (by decide +kernel) ⟨Nat.le_of_ble_eq_true rfl, Nat.le_of_ble_eq_true rfl⟩) ⟨hx, hb, hml, hown, hts⟩ hK hP hD hS hA (gJ2 [(ci, .inl (G.2.2.1 0, 4, .inl (nA C))), (pe, .inl (G.2.2.1 1, 8, .inr (.inr (.inr (.inr (va_up pf np (some q23)))))))] (dW G am z24) (dW G ab zb) (tlW G to tn tn tq tN tf ++ (va_pl (LP ++ [q23]) (iF G (va_up D q23 (va_up (va_up (fun _ => 0) 0 a) 1 b)))))) rfl rfl rfl hl rfl (Nat.le_of_ble_eq_true rfl) dL_law_385 ⟨Nat.le_trans (show (c + 1) + 0 ≤ 500000 by omega) hR.1, Nat.le_trans (show (t + 2) + 0 ≤ 6000000 by omega) hR.2⟩ (fun z25 H locs hu hP hD hS => ?_)
      obtain ⟨hI25, hf25⟩ := hu
      have hP : va_P (gD G) vwCl ([(ci, .inl (G.2.2.1 0, 4, .inl (nA C))), (pe, .inl (G.2.2.1 1, 8, .inr (.inr (.inr (.inr (va_up pf np (some q23)))))))] ++ (dW G am z24 ++ (dW G ab z25 ++ (tlW G to tn tn tq tN tf ++ (va_pl (LP ++ [q23]) (iF G (va_up D q23 (va_up (va_up (fun _ => 0) 0 a) 1 b)))))))) H := hP
      have hD : va_D A ([(ci, .inl (G.2.2.1 0, 4, .inl (nA C))), (pe, .inl (G.2.2.1 1, 8, .inr (.inr (.inr (.inr (va_up pf np (some q23)))))))] ++ (dW G am z24 ++ (dW G ab z25 ++ (tlW G to tn tn tq tN tf ++ (va_pl (LP ++ [q23]) (iF G (va_up D q23 (va_up (va_up (fun _ => 0) 0 a) 1 b)))))))) := hD
      refine W.widen (k := (c + 1)) (n := (t + 2)) (by show (c + 1) + 0 ≤ (c + 1); omega) (by show (t + 2) + 0 ≤ (t + 2); omega) ?_
      refine W.eq (g2 := F0 m9 388 ls [.int (nI (zb.2.1 4))]) rfl ?_
      refine lv_pop hx hb dL_law_388 rfl ?_
      refine lv_iinc (lv' := [(6, .int (nI (np + 1))), (0, .ref (G.2.2.2 259)), (1, .ref (am 0)), (2, .ref (ab 0)), (3, .ref ci), (4, .ref to), (5, .ref pe), (7, .int (nI nt)), (8, .int (nI n)), (9, .int (nI (6 + 5 * n))), (10, .int (nI a)), (11, .int (nI b))]) hx hb dL_law_389 hl (k := 6) rfl (n_inc _) (by decide) rfl (fun ls hl => ?_)
      refine lv_goto (tgt := 580) hx hb dL_law_392 (by decide) ?_
      refine W.widen (k := (c + 10)) (n := (t + 400)) (by omega) (by omega) ?_
      exact K z24 z25 C tn tq tN tf (LP ++ [q23]) (va_up D q23 (va_up (va_up (fun _ => 0) 0 a) 1 b)) (va_up pf np (some q23)) (np + 1) nt (RI_perm hI hI24 hI25 (hf24.trans ((congrArg (fun q : FC => ((q.1, q.2.1, q.2.2.1, q.2.2.2.1, va_up q.2.2.2.2.1 q.2.2.2.2.2.2.1 (min a b), va_up q.2.2.2.2.2.1 q.2.2.2.2.2.2.1 (max a b), q.2.2.2.2.2.2.1 + 1, q.2.2.2.2.2.2.2) : FC)) hfc).trans hf25.symm)) hf24 ha hb6 c21 hqn rfl rfl) _ _ (gtP hP [0, 1] rfl) (gtD hD [0, 1] (by decide) rfl) hS _ (lv_sub hl [1, 2, 3, 4, 5, 6, 0, 7, 8] rfl)
