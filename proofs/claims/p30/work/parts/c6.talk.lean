set_option maxHeartbeats 8000000 in
set_option maxRecDepth 100000 in
/-- a round lets two talk -/
theorem lw_talk {P9 : Program} {l : Launch} {e9 : Env} {s : State} {m9 : MethodId} {args : Array Value} {below : List Frame} {meth : Method} {c9 : Code} {Q : State → Prop} {G : gG} {A : Nat → Prop} {am ab : Nat → Nat} {ci pe to : Nat} (hX : lX P9 s m9 c9 args G A) (n c t : Nat) (hn : n < 48) (hc : c ≤ 490000) (ht : t ≤ 5900000) (K : HD P9 l e9 s m9 args below meth c9 Q G A am ab ci pe to 580 (n + 1) n (c + 10) (t + 400)) : HS P9 l e9 s m9 args below meth c9 Q G A am ab ci pe to 395 n c t := by
  obtain ⟨hx, hb, hml, hown, hts, hK, hA, hE, hR⟩ := id hX
  intro zm zb C tn tq tN tf LP D pf np nt a b hI ha hb6 H locs hP hD hS ls hl
  obtain ⟨⟨hIm, hIb, hfc⟩, hC, ⟨htn, htN, htl⟩, hpp, hnp, hnt⟩ := id hI
  have hnp8 : np ≤ 8 := hnp ▸ hIm.1.2.2.1
  have hnt10 : nt ≤ 10 := hnt ▸ hIm.1.2.1.1.1
  refine lv_iload hx hb dL_law_395 (lv_at hl 10 rfl) ?_
  refine lv_iconst (v := nI 3) hx hb dL_law_397 (by decide) ?_
  refine gN_gt (tgt := 580) hx hb dL_law_398 (by decide) (by omega) (by decide) (fun c21 => ?_) (fun c21 => ?_)
  · refine W.widen (k := (c + 10)) (n := (t + 400)) (by omega) (by omega) ?_
    exact K zm zb C tn tq tN tf LP D pf np nt (RI_next hI) _ _ (gtP hP [0, 1] rfl) (gtD hD [0, 1] (by decide) rfl) hS _ (lv_sub hl [0, 1, 2, 3, 4, 5, 6, 7, 8] rfl)
  · refine lv_iload hx hb dL_law_401 (lv_at hl 11 rfl) ?_
    refine lv_iconst (v := nI 3) hx hb dL_law_403 (by decide) ?_
    refine gN_gt (tgt := 580) hx hb dL_law_404 (by decide) (by omega) (by decide) (fun c22 => ?_) (fun c22 => ?_)
    · refine W.widen (k := (c + 10)) (n := (t + 400)) (by omega) (by omega) ?_
      exact K zm zb C tn tq tN tf LP D pf np nt (RI_next hI) _ _ (gtP hP [0, 1] rfl) (gtD hD [0, 1] (by decide) rfl) hS _ (lv_sub hl [0, 1, 2, 3, 4, 5, 6, 7, 8] rfl)
    · refine lv_iload hx hb dL_law_407 (lv_at hl 10 rfl) ?_
      refine lv_iload hx hb dL_law_409 (lv_at hl 11 rfl) ?_
      refine gN_ne (tgt := 417) hx hb dL_law_411 (by decide) (by omega) (by omega) (fun c23 => ?_) (fun c23 => ?_)
      · obtain ⟨y, hy⟩ : ∃ y : Nat, (if GA (zm.1 9) (cir (zm.1 8) a ||| cir (zm.1 8) b) = 0 then 1 else 0) = y := ⟨_, rfl⟩
        have hy1 : y ≤ 1 := by rw [← hy]; split <;> omega
        have hyb : (if GA (zb.1 9) (cir (zb.1 8) a ||| cir (zb.1 8) b) = 0 then 1 else 0) = y := (congrArg (fun q : FC => if GA q.2.2.2.2.2.2.2.2 (cir q.2.2.2.2.2.2.2.1 a ||| cir q.2.2.2.2.2.2.2.1 b) = 0 then 1 else 0) hfc).symm.trans hy
        have ha4 : a < 4 := by omega
        have hb4 : b < 4 := by omega
        have hab : a ≠ b := by omega
        have hx16 : C a ||| C b < 16 := Nat.or_lt_two_pow (n := 4) (by rw [hC a ha4]; exact (isT_own hIm.2.1.1.1 ha4).2.1) (by rw [hC b hb4]; exact (isT_own hIm.2.1.1.1 hb4).2.1)
        refine lv_aload_n hx hb dL_law_417 rfl (lv_at hl 1 rfl) ?_
        refine lv_iload hx hb dL_law_418 (lv_at hl 10 rfl) ?_
        refine lv_iload hx hb dL_law_420 (lv_at hl 11 rfl) ?_
        refine gCVJ (ci := 9) (q0 := 0) (C := RX6) (As := [.int (nI a), .int (nI b)]) (rest := []) hE (k_talk l G am zm a b hIm (by omega) (by omega) (by omega)) (cwV 2 hts gL_law_X6_talk rfl rfl rfl (by decide +kernel) ⟨Nat.le_of_ble_eq_true rfl, Nat.le_of_ble_eq_true rfl⟩) ⟨hx, hb, hml, hown, hts⟩ hK hP hD hS hA (gJ1 [(ci, .inl (G.2.2.1 0, 4, .inl (nA C))), (pe, .inl (G.2.2.1 1, 8, .inr (.inr (.inr (.inr pf)))))]  (dW G am zm) (dW G ab zb ++ (tlW G to tn tn tq tN tf ++ (va_pl LP (iF G D))))) rfl rfl rfl hl rfl (Nat.le_of_ble_eq_true rfl) dL_law_422 ⟨Nat.le_trans (show c + 0 ≤ 500000 by omega) hR.1, Nat.le_trans (show t + 0 ≤ 6000000 by omega) hR.2⟩ (fun z24 H locs hu hP hD hS => ?_)
        obtain ⟨hI24, hf24⟩ := hu
        have hP : va_P (gD G) vwCl ([(ci, .inl (G.2.2.1 0, 4, .inl (nA C))), (pe, .inl (G.2.2.1 1, 8, .inr (.inr (.inr (.inr pf)))))] ++ (dW G am z24 ++ (dW G ab zb ++ (tlW G to tn tn tq tN tf ++ (va_pl LP (iF G D)))))) H := hP
        have hD : va_D A ([(ci, .inl (G.2.2.1 0, 4, .inl (nA C))), (pe, .inl (G.2.2.1 1, 8, .inr (.inr (.inr (.inr pf)))))] ++ (dW G am z24 ++ (dW G ab zb ++ (tlW G to tn tn tq tN tf ++ (va_pl LP (iF G D)))))) := hD
        refine W.widen (k := c) (n := t) (by show c + 0 ≤ c; omega) (by show t + 0 ≤ t; omega) ?_
        refine W.eq (g2 := F0 m9 425 ls [.int (nI (if GA (zm.1 9) (cir (zm.1 8) a ||| cir (zm.1 8) b) = 0 then 1 else 0))]) rfl ?_
        refine gTop (y := nI y) (congrArg nI hy) ?_
        refine lv_istore (lv' := [(12, .int (nI y)), (0, .ref (G.2.2.2 259)), (1, .ref (am 0)), (2, .ref (ab 0)), (3, .ref ci), (4, .ref to), (5, .ref pe), (6, .int (nI np)), (7, .int (nI nt)), (8, .int (nI n)), (9, .int (nI (6 + 5 * n))), (10, .int (nI a)), (11, .int (nI b))]) hx hb dL_law_425 hl (by decide) rfl (fun ls hl => ?_)
        refine lv_iload hx hb dL_law_427 (lv_at hl 0 rfl) ?_
        refine lv_aload_n hx hb dL_law_429 rfl (lv_at hl 3 rfl) ?_
        refine lv_iload hx hb dL_law_430 (lv_at hl 11 rfl) ?_
        refine lv_iload hx hb dL_law_432 (lv_at hl 12 rfl) ?_
        refine gCVJ (ci := 9) (q0 := 0) (C := RX6) (As := [.int (nI a), .int (nI b)]) (rest := [.int (nI y)]) hE (k_talk l G ab zb a b hIb (by omega) (by omega) (by omega)) (cwV 2 hts gL_law_X6_talk rfl rfl rfl (by decide +kernel) ⟨Nat.le_of_ble_eq_true rfl, Nat.le_of_ble_eq_true rfl⟩) ⟨hx, hb, hml, hown, hts⟩ hK hP hD hS hA (gJ2 [(ci, .inl (G.2.2.1 0, 4, .inl (nA C))), (pe, .inl (G.2.2.1 1, 8, .inr (.inr (.inr (.inr pf)))))] (dW G am z24) (dW G ab zb) (tlW G to tn tn tq tN tf ++ (va_pl LP (iF G D)))) rfl rfl rfl hl rfl (Nat.le_of_ble_eq_true rfl) dL_law_434 ⟨Nat.le_trans (show c + 0 ≤ 500000 by omega) hR.1, Nat.le_trans (show t + 0 ≤ 6000000 by omega) hR.2⟩ (fun z25 H locs hu hP hD hS => ?_)
        obtain ⟨hI25, hf25⟩ := hu
        have hP : va_P (gD G) vwCl ([(ci, .inl (G.2.2.1 0, 4, .inl (nA C))), (pe, .inl (G.2.2.1 1, 8, .inr (.inr (.inr (.inr pf)))))] ++ (dW G am z24 ++ (dW G ab z25 ++ (tlW G to tn tn tq tN tf ++ (va_pl LP (iF G D)))))) H := hP
        have hD : va_D A ([(ci, .inl (G.2.2.1 0, 4, .inl (nA C))), (pe, .inl (G.2.2.1 1, 8, .inr (.inr (.inr (.inr pf)))))] ++ (dW G am z24 ++ (dW G ab z25 ++ (tlW G to tn tn tq tN tf ++ (va_pl LP (iF G D)))))) := hD
        refine W.widen (k := c) (n := t) (by show c + 0 ≤ c; omega) (by show t + 0 ≤ t; omega) ?_
        refine W.eq (g2 := F0 m9 437 ls [.int (nI (if GA (zb.1 9) (cir (zb.1 8) a ||| cir (zb.1 8) b) = 0 then 1 else 0)), .int (nI y)]) rfl ?_
        refine gTop (y := nI y) (congrArg nI hyb) ?_
        refine gN_eq (tgt := 442) hx hb dL_law_437 (by decide) (by omega) (by omega) (fun c26 => ?_) (fun c26 => absurd c26 (by omega))
        refine lv_aload_n hx hb dL_law_442 rfl (lv_at hl 4 rfl) ?_
        refine lv_iload hx hb dL_law_443 (lv_at hl 11 rfl) ?_
        refine gN_iald hx hb hK hP 0 0 rfl rfl (by omega) (by decide) dL_law_445 ?_
        refine lv_aload_n hx hb dL_law_446 rfl (lv_at hl 4 rfl) ?_
        refine lv_iload hx hb dL_law_447 (lv_at hl 12 rfl) ?_
        refine gN_iald hx hb hK hP 0 0 rfl rfl (by omega) (by decide) dL_law_449 ?_
        refine lv_ior hx hb dL_law_450 ?_
        refine gTop (y := (nI ((C a) ||| (C b)))) (n_or _ _) ?_
        refine lv_istore (lv' := [(13, .int (nI ((C a) ||| (C b)))), (12, .int (nI y)), (0, .ref (G.2.2.2 259)), (1, .ref (am 0)), (2, .ref (ab 0)), (3, .ref ci), (4, .ref to), (5, .ref pe), (6, .int (nI np)), (7, .int (nI nt)), (8, .int (nI n)), (9, .int (nI (6 + 5 * n))), (10, .int (nI a)), (11, .int (nI b))]) hx hb dL_law_451 hl (by decide) rfl (fun ls hl => ?_)
        refine lv_iconst (v := nI 0) hx hb dL_law_453 (by decide) ?_
        refine lv_istore (lv' := [(14, .int (nI 0)), (13, .int (nI ((C a) ||| (C b)))), (12, .int (nI y)), (0, .ref (G.2.2.2 259)), (1, .ref (am 0)), (2, .ref (ab 0)), (3, .ref ci), (4, .ref to), (5, .ref pe), (6, .int (nI np)), (7, .int (nI nt)), (8, .int (nI n)), (9, .int (nI (6 + 5 * n))), (10, .int (nI a)), (11, .int (nI b))]) hx hb dL_law_454 hl (by decide) rfl (fun ls hl => ?_)
        suffices L27 : ∀ (rm k : Nat), k + rm = 4 → (y = 0 → k = 0) → ∀ (H : Heap) (locs : List Loc), va_P (gD G) vwCl ([(ci, .inl (G.2.2.1 0, 4, .inl (nA (cmg C (C a ||| C b) k)))), (pe, .inl (G.2.2.1 1, 8, .inr (.inr (.inr (.inr pf)))))] ++ (dW G am z24 ++ (dW G ab z25 ++ (tlW G to tn tn tq tN tf ++ (va_pl LP (iF G D)))))) H → va_D A ([(ci, .inl (G.2.2.1 0, 4, .inl (nA (cmg C (C a ||| C b) k)))), (pe, .inl (G.2.2.1 1, 8, .inr (.inr (.inr (.inr pf)))))] ++ (dW G am z24 ++ (dW G ab z25 ++ (tlW G to tn tn tq tN tf ++ (va_pl LP (iF G D)))))) → va_S A s.heap H locs → ∀ ls : Array Slot, lv_has ls 16 [(0, .ref (G.2.2.2 259)), (1, .ref (am 0)), (2, .ref (ab 0)), (3, .ref ci), (4, .ref to), (5, .ref pe), (6, .int (nI np)), (7, .int (nI nt)), (8, .int (nI n)), (12, .int (nI y)), (13, .int (nI (C a ||| C b))), (14, .int (nI k))] → W P9 l e9 room_1 s m9 args below meth c9 H locs (c + 10) (t + 400) Q (F0 m9 456 ls []) by
          rw [← cmg_0 C (C a ||| C b)] at hP hD
          have hP : va_P (gD G) vwCl ([(ci, .inl (G.2.2.1 0, 4, .inl (nA (cmg C (C a ||| C b) 0)))), (pe, .inl (G.2.2.1 1, 8, .inr (.inr (.inr (.inr pf)))))] ++ (dW G am z24 ++ (dW G ab z25 ++ (tlW G to tn tn tq tN tf ++ (va_pl LP (iF G D)))))) H := hP
          have hD : va_D A ([(ci, .inl (G.2.2.1 0, 4, .inl (nA (cmg C (C a ||| C b) 0)))), (pe, .inl (G.2.2.1 1, 8, .inr (.inr (.inr (.inr pf)))))] ++ (dW G am z24 ++ (dW G ab z25 ++ (tlW G to tn tn tq tN tf ++ (va_pl LP (iF G D)))))) := hD
          refine W.widen (k := (c + 10)) (n := (t + 400)) (by omega) (by omega) ?_
          exact L27 _ 0  (Nat.add_sub_cancel' (by omega)) (fun _ => rfl) _ _ (gtP hP [0, 1] rfl) (gtD hD [0, 1] (by decide) rfl) hS _ (lv_sub hl [3, 4, 5, 6, 7, 8, 9, 10, 11, 2, 1, 0] rfl)
        intro rm
        induction rm with
        | zero =>
          intro k hi hky H locs hP hD hS ls hl
          refine lv_iload hx hb dL_law_456 (lv_at hl 11 rfl) ?_
          refine lv_iconst (v := nI 4) hx hb dL_law_458 (by decide) ?_
          refine gN_ge (tgt := 490) hx hb dL_law_459 (by decide) (by omega) (by decide) (fun c28 => ?_) (fun c28 => absurd c28 (by omega))
          refine lv_goto (tgt := 580) hx hb dL_law_490 (by decide) ?_
          have hC2 : ∀ i, i < 4 → (cmg C (C a ||| C b) k) i = cir (z24.1 8) i := fun i hi9 => by
            have e9 : z24.1 8 = talT (zm.1 9) (zm.1 8) a b := (congrArg (fun q : FC => q.2.2.2.2.2.2.2.1) hf24).trans rfl
            rw [e9]
            exact cmg_talk hIm.2.1.1 ha4 hb4 hab hC hy (show (k = 4 ∧ y ≠ 0) ∨ (k = 0 ∧ y = 0) from (Nat.eq_zero_or_pos y).elim (fun h9 => Or.inr ⟨hky h9, h9⟩) (fun h9 => Or.inl ⟨by omega, by omega⟩)) i hi9
          exact K z24 z25 (cmg C (C a ||| C b) k) tn tq tN tf LP D pf np nt (RI_gen hI hI24 hI25 (hf24.trans ((congrArg (fun q : FC => ((q.1, q.2.1, q.2.2.1, q.2.2.2.1, q.2.2.2.2.1, q.2.2.2.2.2.1, q.2.2.2.2.2.2.1, talT q.2.2.2.2.2.2.2.2 q.2.2.2.2.2.2.2.1 a b, q.2.2.2.2.2.2.2.2) : FC)) hfc).trans hf25.symm)) hC2 ((congrArg (fun q : FC => q.2.2.2.2.1) hf24).trans rfl) ((congrArg (fun q : FC => q.2.2.2.2.2.1) hf24).trans rfl) ((congrArg (fun q : FC => q.2.2.2.2.2.2.1) hf24).trans rfl) (fun y9 j9 h9 => by rw [show z24.1 9 = zm.1 9 from (congrArg (fun q : FC => q.2.2.2.2.2.2.2.2) hf24).trans rfl]; exact h9) (hnt.trans (congrArg (fun q : FC => q.2.2.2.1) hf24).symm)) _ _ (gtP hP [0, 1] rfl) (gtD hD [0, 1] (by decide) rfl) hS _ (lv_sub hl [0, 1, 2, 3, 4, 5, 6, 7, 8] rfl)
        | succ rm ih =>
          intro k hi hky H locs hP hD hS ls hl
          refine lv_iload hx hb dL_law_456 (lv_at hl 11 rfl) ?_
          refine lv_iconst (v := nI 4) hx hb dL_law_458 (by decide) ?_
          refine gN_ge (tgt := 490) hx hb dL_law_459 (by decide) (by omega) (by decide) (fun c29 => absurd c29 (by omega)) (fun c29 => ?_)
          refine lv_iload hx hb dL_law_462 (lv_at hl 9 rfl) ?_
          refine gN_eq0 (tgt := 490) hx hb dL_law_464 (by decide) (by omega) (fun c30 => ?_) (fun c30 => ?_)
          · refine lv_goto (tgt := 580) hx hb dL_law_490 (by decide) ?_
            have hC2 : ∀ i, i < 4 → (cmg C (C a ||| C b) k) i = cir (z24.1 8) i := fun i hi9 => by
              have e9 : z24.1 8 = talT (zm.1 9) (zm.1 8) a b := (congrArg (fun q : FC => q.2.2.2.2.2.2.2.1) hf24).trans rfl
              rw [e9]
              exact cmg_talk hIm.2.1.1 ha4 hb4 hab hC hy (Or.inr ⟨hky c30, c30⟩) i hi9
            exact K z24 z25 (cmg C (C a ||| C b) k) tn tq tN tf LP D pf np nt (RI_gen hI hI24 hI25 (hf24.trans ((congrArg (fun q : FC => ((q.1, q.2.1, q.2.2.1, q.2.2.2.1, q.2.2.2.2.1, q.2.2.2.2.2.1, q.2.2.2.2.2.2.1, talT q.2.2.2.2.2.2.2.2 q.2.2.2.2.2.2.2.1 a b, q.2.2.2.2.2.2.2.2) : FC)) hfc).trans hf25.symm)) hC2 ((congrArg (fun q : FC => q.2.2.2.2.1) hf24).trans rfl) ((congrArg (fun q : FC => q.2.2.2.2.2.1) hf24).trans rfl) ((congrArg (fun q : FC => q.2.2.2.2.2.2.1) hf24).trans rfl) (fun y9 j9 h9 => by rw [show z24.1 9 = zm.1 9 from (congrArg (fun q : FC => q.2.2.2.2.2.2.2.2) hf24).trans rfl]; exact h9) (hnt.trans (congrArg (fun q : FC => q.2.2.2.1) hf24).symm)) _ _ (gtP hP [0, 1] rfl) (gtD hD [0, 1] (by decide) rfl) hS _ (lv_sub hl [0, 1, 2, 3, 4, 5, 6, 7, 8] rfl)
          · refine lv_iload hx hb dL_law_467 (lv_at hl 10 rfl) ?_
            refine lv_iload hx hb dL_law_469 (lv_at hl 11 rfl) ?_
            refine lv_ishr hx hb dL_law_471 ?_
            refine gTop (y := (nI ((C a ||| C b) / 2 ^ k))) (n_shr (by omega) (by omega)) ?_
            refine lv_iconst (v := nI 1) hx hb dL_law_472 (by decide) ?_
            refine lv_iand hx hb dL_law_473 ?_
            refine gTop (y := (nI (((C a ||| C b) / 2 ^ k) &&& 1))) (n_and _ _) ?_
            refine lv_iconst (v := nI 1) hx hb dL_law_474 (by decide) ?_
            refine gN_ne (tgt := 484) hx hb dL_law_475 (by decide) (and1_lt _) (by decide) (fun c31 => ?_) (fun c31 => ?_)
            · refine lv_iinc (lv' := [(14, .int (nI (k + 1))), (0, .ref (G.2.2.2 259)), (1, .ref (am 0)), (2, .ref (ab 0)), (3, .ref ci), (4, .ref to), (5, .ref pe), (6, .int (nI np)), (7, .int (nI nt)), (8, .int (nI n)), (12, .int (nI y)), (13, .int (nI (C a ||| C b)))]) hx hb dL_law_484 hl (k := 11) rfl (n_inc _) (by decide) rfl (fun ls hl => ?_)
              refine lv_goto (tgt := 456) hx hb dL_law_487 (by decide) ?_
              rw [cmg_n (bit_no c31)] at hP hD
              have hP : va_P (gD G) vwCl ([(ci, .inl (G.2.2.1 0, 4, .inl (nA (cmg C (C a ||| C b) (k + 1))))), (pe, .inl (G.2.2.1 1, 8, .inr (.inr (.inr (.inr pf)))))] ++ (dW G am z24 ++ (dW G ab z25 ++ (tlW G to tn tn tq tN tf ++ (va_pl LP (iF G D)))))) H := hP
              have hD : va_D A ([(ci, .inl (G.2.2.1 0, 4, .inl (nA (cmg C (C a ||| C b) (k + 1))))), (pe, .inl (G.2.2.1 1, 8, .inr (.inr (.inr (.inr pf)))))] ++ (dW G am z24 ++ (dW G ab z25 ++ (tlW G to tn tn tq tN tf ++ (va_pl LP (iF G D)))))) := hD
              exact ih (k + 1)  (by omega) (fun z => absurd z c30) _ _ (gtP hP [0, 1] rfl) (gtD hD [0, 1] (by decide) rfl) hS _ (lv_sub hl [1, 2, 3, 4, 5, 6, 7, 8, 9, 10, 11, 0] rfl)
            · refine lv_aload_n hx hb dL_law_478 rfl (lv_at hl 3 rfl) ?_
              refine lv_iload hx hb dL_law_479 (lv_at hl 11 rfl) ?_
              refine lv_iload hx hb dL_law_481 (lv_at hl 10 rfl) ?_
              refine gN_iast hx hb hK hP hD hS 0 0 rfl rfl (by omega) (by decide) dL_law_483 (fun H locs hP hD hS => ?_)
              have hP : va_P (gD G) vwCl ([(ci, .inl (G.2.2.1 0, 4, .inl (nA (va_up (cmg C (C a ||| C b) k) k (C a ||| C b))))), (pe, .inl (G.2.2.1 1, 8, .inr (.inr (.inr (.inr pf)))))] ++ (dW G am z24 ++ (dW G ab z25 ++ (tlW G to tn tn tq tN tf ++ (va_pl LP (iF G D)))))) H := hP
              have hD : va_D A ([(ci, .inl (G.2.2.1 0, 4, .inl (nA (va_up (cmg C (C a ||| C b) k) k (C a ||| C b))))), (pe, .inl (G.2.2.1 1, 8, .inr (.inr (.inr (.inr pf)))))] ++ (dW G am z24 ++ (dW G ab z25 ++ (tlW G to tn tn tq tN tf ++ (va_pl LP (iF G D)))))) := hD
              refine lv_iinc (lv' := [(14, .int (nI (k + 1))), (0, .ref (G.2.2.2 259)), (1, .ref (am 0)), (2, .ref (ab 0)), (3, .ref ci), (4, .ref to), (5, .ref pe), (6, .int (nI np)), (7, .int (nI nt)), (8, .int (nI n)), (12, .int (nI y)), (13, .int (nI (C a ||| C b)))]) hx hb dL_law_484 hl (k := 11) rfl (n_inc _) (by decide) rfl (fun ls hl => ?_)
              refine lv_goto (tgt := 456) hx hb dL_law_487 (by decide) ?_
              rw [cmg_y (bit_yes c31)] at hP hD
              have hP : va_P (gD G) vwCl ([(ci, .inl (G.2.2.1 0, 4, .inl (nA (cmg C (C a ||| C b) (k + 1))))), (pe, .inl (G.2.2.1 1, 8, .inr (.inr (.inr (.inr pf)))))] ++ (dW G am z24 ++ (dW G ab z25 ++ (tlW G to tn tn tq tN tf ++ (va_pl LP (iF G D)))))) H := hP
              have hD : va_D A ([(ci, .inl (G.2.2.1 0, 4, .inl (nA (cmg C (C a ||| C b) (k + 1))))), (pe, .inl (G.2.2.1 1, 8, .inr (.inr (.inr (.inr pf)))))] ++ (dW G am z24 ++ (dW G ab z25 ++ (tlW G to tn tn tq tN tf ++ (va_pl LP (iF G D)))))) := hD
              exact ih (k + 1)  (by omega) (fun z => absurd z c30) _ _ (gtP hP [0, 1] rfl) (gtD hD [0, 1] (by decide) rfl) hS _ (lv_sub hl [1, 2, 3, 4, 5, 6, 7, 8, 9, 10, 11, 0] rfl)
      · refine lv_goto (tgt := 580) hx hb dL_law_414 (by decide) ?_
        refine W.widen (k := (c + 10)) (n := (t + 400)) (by omega) (by omega) ?_
        exact K zm zb C tn tq tN tf LP D pf np nt (RI_next hI) _ _ (gtP hP [0, 1] rfl) (gtD hD [0, 1] (by decide) rfl) hS _ (lv_sub hl [0, 1, 2, 3, 4, 5, 6, 7, 8] rfl)
