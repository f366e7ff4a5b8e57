set_option maxHeartbeats 8000000 in
set_option maxRecDepth 100000 in
/-- the check: from what a circle was told nobody is put together -/
theorem lw_circ {P9 : Program} {l : Launch} {e9 : Env} {s : State} {m9 : MethodId} {args : Array Value} {below : List Frame} {meth : Method} {c9 : Code} {Q : State → Prop} {G : gG} {A : Nat → Prop} {am ab : Nat → Nat} {ci pe to : Nat} (hX : lX P9 s m9 c9 args G A) (n c t : Nat) (hn : n < 48) (hc : c ≤ 490000) (ht : t ≤ 5900000) (K : HD P9 l e9 s m9 args below meth c9 Q G A am ab ci pe to 709 (n + 1) n (c + 2800) (t + 80000)) : HD P9 l e9 s m9 args below meth c9 Q G A am ab ci pe to 591 (n + 1) n c t := by
  obtain ⟨hx, hb, hml, hown, hts, hK, hA, hE, hR⟩ := id hX
  intro zm zb C tn tq tN tf LP D pf np nt hI H locs hP hD hS ls hl
  obtain ⟨⟨hIm, hIb, hfc⟩, hC, ⟨htn, htN, htl⟩, hpp, hnp, hnt⟩ := id hI
  have hnp8 : np ≤ 8 := hnp ▸ hIm.1.2.2.1
  have hnt10 : nt ≤ 10 := hnt ▸ hIm.1.2.1.1.1
  refine lv_iconst (v := nI 0) hx hb dL_law_591 (by decide) ?_
  refine lv_istore (lv' := [(12, .int (nI 0)), (0, .ref (G.2.2.2 259)), (1, .ref (am 0)), (2, .ref (ab 0)), (3, .ref ci), (4, .ref to), (5, .ref pe), (6, .int (nI np)), (7, .int (nI nt)), (8, .int (nI n))]) hx hb dL_law_592 hl (by decide) rfl (fun ls hl => ?_)
  suffices L21 : ∀ (rmk k : Nat), k + rmk = 4 → ∀ (H : Heap) (locs : List Loc), va_P (gD G) vwCl ([(ci, .inl (G.2.2.1 0, 4, .inl (nA C))), (pe, .inl (G.2.2.1 1, 8, .inr (.inr (.inr (.inr pf)))))] ++ (dW G am zm ++ (dW G ab zb ++ (tlW G to tn tn tq tN tf ++ (va_pl LP (iF G D)))))) H → va_D A ([(ci, .inl (G.2.2.1 0, 4, .inl (nA C))), (pe, .inl (G.2.2.1 1, 8, .inr (.inr (.inr (.inr pf)))))] ++ (dW G am zm ++ (dW G ab zb ++ (tlW G to tn tn tq tN tf ++ (va_pl LP (iF G D)))))) → va_S A s.heap H locs → ∀ ls : Array Slot, lv_has ls 16 [(0, .ref (G.2.2.2 259)), (1, .ref (am 0)), (2, .ref (ab 0)), (3, .ref ci), (4, .ref to), (5, .ref pe), (6, .int (nI np)), (7, .int (nI nt)), (8, .int (nI n)), (12, .int (nI k))] → W P9 l e9 room_1 s m9 args below meth c9 H locs (c + k * 700) (t + k * 20000) Q (F0 m9 594 ls []) by
    refine W.widen (k := (c + 0 * 700)) (n := (t + 0 * 20000)) (by omega) (by omega) ?_
    exact L21 _ 0  (Nat.add_sub_cancel' (by omega))  _ _ (gtP hP [0, 1] rfl) (gtD hD [0, 1] (by decide) rfl) hS _ (lv_sub hl [1, 2, 3, 4, 5, 6, 7, 8, 9, 0] rfl)
  intro rmk
  induction rmk with
  | zero =>
    intro k hik H locs hP hD hS ls hl
    refine lv_iload hx hb dL_law_594 (lv_at hl 9 rfl) ?_
    refine lv_iconst (v := nI 4) hx hb dL_law_596 (by decide) ?_
    refine gN_ge (tgt := 709) hx hb dL_law_597 (by decide) (by omega) (by decide) (fun c22 => ?_) (fun c22 => absurd c22 (by omega))
    refine W.widen (k := (c + 2800)) (n := (t + 80000)) (by omega) (by omega) ?_
    exact K zm zb C tn tq tN tf LP D pf np nt hI _ _ (gtP hP [0, 1] rfl) (gtD hD [0, 1] (by decide) rfl) hS _ (lv_sub hl [0, 1, 2, 3, 4, 5, 6, 7, 8] rfl)
  | succ rmk ihk =>
    intro k hik H locs hP hD hS ls hl
    refine lv_iload hx hb dL_law_594 (lv_at hl 9 rfl) ?_
    refine lv_iconst (v := nI 4) hx hb dL_law_596 (by decide) ?_
    refine gN_ge (tgt := 709) hx hb dL_law_597 (by decide) (by omega) (by decide) (fun c23 => absurd c23 (by omega)) (fun c23 => ?_)
    have hk4 : k < 4 := by omega
    have hCk : C k < 16 := by rw [hC k hk4]; exact (isT_own hIm.2.1.1.1 hk4).2.1
    refine va_new (ci := 2) (fs := [.int (nI 0), .null, .int (nI 0)]) (C := RJx4a65c) (T := TJx4a65c) (N := 3) hx hb hts (by decide +kernel) tyJx4a65c tyJx4a65c_ok hown (hts (.classLink RL 65 RJx4a65c) (by decide +kernel)) (hts (.instantiable RJx4a65c 3) (by decide +kernel)) (hts (.initialized RJx4a65c) (by decide +kernel)) hK hP hD hS hA rfl (fun j hj => by rcases (show j = 0 ∨ j = 1 ∨ j = 2 by omega) with rfl | rfl | rfl <;> rfl) (Nat.le_trans (show (c + k * 700) + 1 ≤ 500000 by omega) hR.1) (Nat.le_trans (show (t + k * 20000) + 3 ≤ 6000000 by omega) hR.2) dL_law_600 (fun q24 H hP hD hS => ?_)
    have hP := va_P.swap hP
    have hD := va_D.swap hD
    have hP : va_P (gD G) vwCl ([(ci, .inl (G.2.2.1 0, 4, .inl (nA C))), (pe, .inl (G.2.2.1 1, 8, .inr (.inr (.inr (.inr pf))))), (q24, .inr (2, [.int (nI 0), .null, .int (nI 0)]))] ++ (dW G am zm ++ (dW G ab zb ++ (tlW G to tn tn tq tN tf ++ (va_pl LP (iF G D)))))) H := hP
    have hD : va_D A ([(ci, .inl (G.2.2.1 0, 4, .inl (nA C))), (pe, .inl (G.2.2.1 1, 8, .inr (.inr (.inr (.inr pf))))), (q24, .inr (2, [.int (nI 0), .null, .int (nI 0)]))] ++ (dW G am zm ++ (dW G ab zb ++ (tlW G to tn tn tq tN tf ++ (va_pl LP (iF G D)))))) := hD
    refine W.widen (k := ((c + k * 700) + 1)) (n := ((t + k * 20000) + 3)) (by show (c + k * 700) + 1 ≤ ((c + k * 700) + 1); omega) (by show (t + k * 20000) + 3 ≤ ((t + k * 20000) + 3); omega) ?_
    refine lv_dup hx hb dL_law_603 rfl ?_
    refine gCIJ (As := []) (rest := [.ref q24]) hE (k_L_init l G q24) (cwI 0 hts ggL_law_Jx4a65c_init_da8c8 rfl rfl rfl (hts (.initialized RJx4a65c) (by decide +kernel)) (hts (.methodLink RL 67 yJx4a65c_init_da8c8) (by decide +kernel)) (hts (.instanceMethod yJx4a65c_init_da8c8) (by decide +kernel)) rfl (by decide +kernel) ⟨Nat.le_of_ble_eq_true rfl, Nat.le_of_ble_eq_true rfl⟩) ⟨hx, hb, hml, hown, hts⟩ hK hP hD hS hA (gJb [(ci, .inl (G.2.2.1 0, 4, .inl (nA C))), (pe, .inl (G.2.2.1 1, 8, .inr (.inr (.inr (.inr pf)))))] [(q24, .inr (2, [.int (nI 0), .null, .int (nI 0)]))] (dW G am zm ++ (dW G ab zb ++ (tlW G to tn tn tq tN tf ++ (va_pl LP (iF G D)))))) rfl hl rfl (Nat.le_of_ble_eq_true rfl) dL_law_604 ⟨Nat.le_trans (show ((c + k * 700) + 1) + 0 ≤ 500000 by omega) hR.1, Nat.le_trans (show ((t + k * 20000) + 3) + 0 ≤ 6000000 by omega) hR.2⟩ (fun u9 H locs hu hP hD hS => ?_)
    have hP : va_P (gD G) vwCl ([(ci, .inl (G.2.2.1 0, 4, .inl (nA C))), (pe, .inl (G.2.2.1 1, 8, .inr (.inr (.inr (.inr pf)))))] ++ (tlW G q24 0 0 0 10 (fun _ => none) ++ (dW G am zm ++ (dW G ab zb ++ (tlW G to tn tn tq tN tf ++ (va_pl LP (iF G D))))))) H := hP
    have hD : va_D A ([(ci, .inl (G.2.2.1 0, 4, .inl (nA C))), (pe, .inl (G.2.2.1 1, 8, .inr (.inr (.inr (.inr pf)))))] ++ (tlW G q24 0 0 0 10 (fun _ => none) ++ (dW G am zm ++ (dW G ab zb ++ (tlW G to tn tn tq tN tf ++ (va_pl LP (iF G D))))))) := hD
    refine W.widen (k := ((c + k * 700) + 1)) (n := ((t + k * 20000) + 3)) (by show ((c + k * 700) + 1) + 0 ≤ ((c + k * 700) + 1); omega) (by show ((t + k * 20000) + 3) + 0 ≤ ((t + k * 20000) + 3); omega) ?_
    refine W.eq (g2 := F0 m9 607 ls [.ref q24]) rfl ?_
    refine lv_astore (lv' := [(13, .ref q24), (0, .ref (G.2.2.2 259)), (1, .ref (am 0)), (2, .ref (ab 0)), (3, .ref ci), (4, .ref to), (5, .ref pe), (6, .int (nI np)), (7, .int (nI nt)), (8, .int (nI n)), (12, .int (nI k))]) hx hb dL_law_607 hl (by decide) rfl (fun ls hl => ?_)
    refine lv_aload hx hb dL_law_609 (lv_at hl 5 rfl) ?_
    refine gCFJ (ci := 2) (q0 := 0) (C := RJx4a65c) (As := []) (rest := []) hE (k_iter l G to tn tn tq tN tf) (va_cwF 0 hts gL_law_Jx4a65c_iterator_32c93_f98Jx4a65c rfl rfl rfl (hE.face 3 rfl) (by decide +kernel) ⟨Nat.le_of_ble_eq_true rfl, Nat.le_of_ble_eq_true rfl⟩) (hK.1 2 _ rfl).2 ⟨hx, hb, hml, hown, hts⟩ hK hP hD hS hA (gJ4 [(ci, .inl (G.2.2.1 0, 4, .inl (nA C))), (pe, .inl (G.2.2.1 1, 8, .inr (.inr (.inr (.inr pf)))))] (tlW G q24 0 0 0 10 (fun _ => none)) (dW G am zm) (dW G ab zb) (tlW G to tn tn tq tN tf) (va_pl LP (iF G D))) rfl rfl rfl hl rfl (Nat.le_of_ble_eq_true rfl) dL_law_611 ⟨Nat.le_trans (show ((c + k * 700) + 1) + 1 ≤ 500000 by omega) hR.1, Nat.le_trans (show ((t + k * 20000) + 3) + 4 ≤ 6000000 by omega) hR.2⟩ (fun it25 H locs hu hP hD hS => ?_)
    have hP : va_P (gD G) vwCl ([(ci, .inl (G.2.2.1 0, 4, .inl (nA C))), (pe, .inl (G.2.2.1 1, 8, .inr (.inr (.inr (.inr pf)))))] ++ (tlW G q24 0 0 0 10 (fun _ => none) ++ (dW G am zm ++ (dW G ab zb ++ ((itW it25 0 (-1) tn to ++ tlW G to tn tn tq tN tf) ++ (va_pl LP (iF G D))))))) H := hP
    have hD : va_D A ([(ci, .inl (G.2.2.1 0, 4, .inl (nA C))), (pe, .inl (G.2.2.1 1, 8, .inr (.inr (.inr (.inr pf)))))] ++ (tlW G q24 0 0 0 10 (fun _ => none) ++ (dW G am zm ++ (dW G ab zb ++ ((itW it25 0 (-1) tn to ++ tlW G to tn tn tq tN tf) ++ (va_pl LP (iF G D))))))) := hD
    refine W.widen (k := ((c + k * 700) + 2)) (n := ((t + k * 20000) + 7)) (by show ((c + k * 700) + 1) + 1 ≤ ((c + k * 700) + 2); omega) (by show ((t + k * 20000) + 3) + 4 ≤ ((t + k * 20000) + 7); omega) ?_
    refine W.eq (g2 := F0 m9 616 ls [.ref it25]) rfl ?_
    refine lv_astore (lv' := [(14, .ref it25), (13, .ref q24), (0, .ref (G.2.2.2 259)), (1, .ref (am 0)), (2, .ref (ab 0)), (3, .ref ci), (4, .ref to), (5, .ref pe), (6, .int (nI np)), (7, .int (nI nt)), (8, .int (nI n)), (12, .int (nI k))]) hx hb dL_law_616 hl (by decide) rfl (fun ls hl => ?_)
    suffices L26 : ∀ (rmi i : Nat) (la : Int32) (kn : Nat) (kq : Nat) (kN : Nat) (kf : Nat → Option Nat) (v : Nat → Nat), i + rmi = tn → (kn ≤ i) → (tlN kn kN) → (∀ j, j < kn → kf j = some (gI G (v j + 128))) → (∀ j, j < kn → v j < 64 ∧ ∃ a, (cir (zm.1 8) k).testBit a = true ∧ (zm.1 9 (v j)).testBit a = true) → ∀ (H : Heap) (locs : List Loc), va_P (gD G) vwCl ([(ci, .inl (G.2.2.1 0, 4, .inl (nA C))), (pe, .inl (G.2.2.1 1, 8, .inr (.inr (.inr (.inr pf)))))] ++ (tlW G q24 kn kn kq kN kf ++ (dW G am zm ++ (dW G ab zb ++ ((itW it25 i la tn to ++ tlW G to tn tn tq tN tf) ++ (va_pl LP (iF G D))))))) H → va_D A ([(ci, .inl (G.2.2.1 0, 4, .inl (nA C))), (pe, .inl (G.2.2.1 1, 8, .inr (.inr (.inr (.inr pf)))))] ++ (tlW G q24 kn kn kq kN kf ++ (dW G am zm ++ (dW G ab zb ++ ((itW it25 i la tn to ++ tlW G to tn tn tq tN tf) ++ (va_pl LP (iF G D))))))) → va_S A s.heap H locs → ∀ ls : Array Slot, lv_has ls 16 [(0, .ref (G.2.2.2 259)), (1, .ref (am 0)), (2, .ref (ab 0)), (3, .ref ci), (4, .ref to), (5, .ref pe), (6, .int (nI np)), (7, .int (nI nt)), (8, .int (nI n)), (12, .int (nI k)), (13, .ref q24), (14, .ref it25)] → W P9 l e9 room_1 s m9 args below meth c9 H locs ((c + k * 700 + i) + 2) ((t + k * 20000 + i * 300) + 7) Q (F0 m9 618 ls []) by
      refine W.widen (k := ((c + k * 700 + 0) + 2)) (n := ((t + k * 20000 + 0 * 300) + 7)) (by omega) (by omega) ?_
      exact L26 _ 0 (-1) 0 0 10 (fun _ => none) (fun _ => 0) (Nat.add_sub_cancel' (by omega)) (Nat.le_refl 0) (fun z9 => absurd rfl z9) (fun j9 hj9 => absurd hj9 (Nat.not_lt_zero j9)) (fun j9 hj9 => absurd hj9 (Nat.not_lt_zero j9)) _ _ (gtP hP [0, 1] rfl) (gtD hD [0, 1] (by decide) rfl) hS _ (lv_sub hl [2, 3, 4, 5, 6, 7, 8, 9, 10, 11, 1, 0] rfl)
    intro rmi
    induction rmi with
    | zero =>
      intro i la kn kq kN kf v hii hkn hkN hkf hkv H locs hP hD hS ls hl
      refine lv_aload hx hb dL_law_618 (lv_at hl 11 rfl) ?_
      refine gCFJ (ci := 1) (q0 := 0) (C := RJx35411) (As := []) (rest := []) hE (k_hasNext l G it25 i la to tn tn tq tN tf (by omega) (by omega)) (va_cwF 0 hts gL_law_Jx35411_hasNext_aae02_f102Jx35411 rfl rfl rfl (hE.face 4 rfl) (by decide +kernel) ⟨Nat.le_of_ble_eq_true rfl, Nat.le_of_ble_eq_true rfl⟩) (hK.1 1 _ rfl).2 ⟨hx, hb, hml, hown, hts⟩ hK hP hD hS hA (gJ4 [(ci, .inl (G.2.2.1 0, 4, .inl (nA C))), (pe, .inl (G.2.2.1 1, 8, .inr (.inr (.inr (.inr pf)))))] (tlW G q24 kn kn kq kN kf) (dW G am zm) (dW G ab zb) (itW it25 i la tn to ++ tlW G to tn tn tq tN tf) (va_pl LP (iF G D))) rfl rfl rfl hl rfl (Nat.le_of_ble_eq_true rfl) dL_law_620 ⟨Nat.le_trans (show ((c + k * 700 + i) + 2) + 0 ≤ 500000 by omega) hR.1, Nat.le_trans (show ((t + k * 20000 + i * 300) + 7) + 0 ≤ 6000000 by omega) hR.2⟩ (fun u9 H locs hu hP hD hS => ?_)
      have hP : va_P (gD G) vwCl ([(ci, .inl (G.2.2.1 0, 4, .inl (nA C))), (pe, .inl (G.2.2.1 1, 8, .inr (.inr (.inr (.inr pf)))))] ++ (tlW G q24 kn kn kq kN kf ++ (dW G am zm ++ (dW G ab zb ++ ((itW it25 i la tn to ++ tlW G to tn tn tq tN tf) ++ (va_pl LP (iF G D))))))) H := hP
      have hD : va_D A ([(ci, .inl (G.2.2.1 0, 4, .inl (nA C))), (pe, .inl (G.2.2.1 1, 8, .inr (.inr (.inr (.inr pf)))))] ++ (tlW G q24 kn kn kq kN kf ++ (dW G am zm ++ (dW G ab zb ++ ((itW it25 i la tn to ++ tlW G to tn tn tq tN tf) ++ (va_pl LP (iF G D))))))) := hD
      refine W.widen (k := ((c + k * 700 + i) + 2)) (n := ((t + k * 20000 + i * 300) + 7)) (by show ((c + k * 700 + i) + 2) + 0 ≤ ((c + k * 700 + i) + 2); omega) (by show ((t + k * 20000 + i * 300) + 7) + 0 ≤ ((t + k * 20000 + i * 300) + 7); omega) ?_
      refine W.eq (g2 := F0 m9 625 ls [.int (nI (if i = tn then 0 else 1))]) rfl ?_
      refine gTop (y := nI 0) (congrArg nI (if_pos (by omega))) ?_
      refine gN_eq0 (tgt := 673) hx hb dL_law_625 (by decide) (by decide) (fun c27 => ?_) (fun c27 => absurd c27 (by omega))
      refine lv_iconst (v := nI 0) hx hb dL_law_673 (by decide) ?_
      refine lv_istore (lv' := [(14, .int (nI 0)), (0, .ref (G.2.2.2 259)), (1, .ref (am 0)), (2, .ref (ab 0)), (3, .ref ci), (4, .ref to), (5, .ref pe), (6, .int (nI np)), (7, .int (nI nt)), (8, .int (nI n)), (12, .int (nI k)), (13, .ref q24)]) hx hb dL_law_674 hl (by decide) rfl (fun ls hl => ?_)
      suffices L28 : ∀ (rmp p : Nat), p + rmp = 6 → ∀ (H : Heap) (locs : List Loc), va_P (gD G) vwCl ([(ci, .inl (G.2.2.1 0, 4, .inl (nA C))), (pe, .inl (G.2.2.1 1, 8, .inr (.inr (.inr (.inr pf)))))] ++ (tlW G q24 kn kn kq kN kf ++ (dW G am zm ++ (dW G ab zb ++ ((itW it25 i la tn to ++ tlW G to tn tn tq tN tf) ++ (va_pl LP (iF G D))))))) H → va_D A ([(ci, .inl (G.2.2.1 0, 4, .inl (nA C))), (pe, .inl (G.2.2.1 1, 8, .inr (.inr (.inr (.inr pf)))))] ++ (tlW G q24 kn kn kq kN kf ++ (dW G am zm ++ (dW G ab zb ++ ((itW it25 i la tn to ++ tlW G to tn tn tq tN tf) ++ (va_pl LP (iF G D))))))) → va_S A s.heap H locs → ∀ ls : Array Slot, lv_has ls 16 [(0, .ref (G.2.2.2 259)), (1, .ref (am 0)), (2, .ref (ab 0)), (3, .ref ci), (4, .ref to), (5, .ref pe), (6, .int (nI np)), (7, .int (nI nt)), (8, .int (nI n)), (12, .int (nI k)), (13, .ref q24), (14, .int (nI p))] → W P9 l e9 room_1 s m9 args below meth c9 H locs ((c + k * 700 + i + p * 102) + 2) ((t + k * 20000 + i * 300 + p * 900) + 7) Q (F0 m9 676 ls []) by
        refine W.widen (k := ((c + k * 700 + i + 0 * 102) + 2)) (n := ((t + k * 20000 + i * 300 + 0 * 900) + 7)) (by omega) (by omega) ?_
        exact L28 _ 0  (Nat.add_sub_cancel' (by omega))  _ _ (gtP hP [0, 1] rfl) (gtD hD [0, 1] (by decide) rfl) hS _ (lv_sub hl [1, 2, 3, 4, 5, 6, 7, 8, 9, 10, 11, 0] rfl)
      intro rmp
      induction rmp with
      | zero =>
        intro p hip H locs hP hD hS ls hl
        refine lv_iload hx hb dL_law_676 (lv_at hl 11 rfl) ?_
        refine lv_bipush (v := nI 6) hx hb dL_law_678 (by decide) ?_
        refine gN_ge (tgt := 703) hx hb dL_law_680 (by decide) (by omega) (by decide) (fun c29 => ?_) (fun c29 => absurd c29 (by omega))
        have hP := vaP_sub (sub_drop [(ci, .inl (G.2.2.1 0, 4, .inl (nA C))), (pe, .inl (G.2.2.1 1, 8, .inr (.inr (.inr (.inr pf)))))] (tlW G q24 kn kn kq kN kf) (dW G am zm) (dW G ab zb) (itW it25 i la tn to) (tlW G to tn tn tq tN tf) (va_pl LP (iF G D))) hP
        have hD := vaD_sub (sub_drop [(ci, .inl (G.2.2.1 0, 4, .inl (nA C))), (pe, .inl (G.2.2.1 1, 8, .inr (.inr (.inr (.inr pf)))))] (tlW G q24 kn kn kq kN kf) (dW G am zm) (dW G ab zb) (itW it25 i la tn to) (tlW G to tn tn tq tN tf) (va_pl LP (iF G D))) hD
        have hP : va_P (gD G) vwCl ([(ci, .inl (G.2.2.1 0, 4, .inl (nA C))), (pe, .inl (G.2.2.1 1, 8, .inr (.inr (.inr (.inr pf)))))] ++ (dW G am zm ++ (dW G ab zb ++ (tlW G to tn tn tq tN tf ++ (va_pl LP (iF G D)))))) H := hP
        have hD : va_D A ([(ci, .inl (G.2.2.1 0, 4, .inl (nA C))), (pe, .inl (G.2.2.1 1, 8, .inr (.inr (.inr (.inr pf)))))] ++ (dW G am zm ++ (dW G ab zb ++ (tlW G to tn tn tq tN tf ++ (va_pl LP (iF G D)))))) := hD
        refine lv_iinc (lv' := [(12, .int (nI (k + 1))), (0, .ref (G.2.2.2 259)), (1, .ref (am 0)), (2, .ref (ab 0)), (3, .ref ci), (4, .ref to), (5, .ref pe), (6, .int (nI np)), (7, .int (nI nt)), (8, .int (nI n)), (13, .ref q24), (14, .int (nI p))]) hx hb dL_law_703 hl (k := 9) rfl (n_inc _) (by decide) rfl (fun ls hl => ?_)
        refine lv_goto (tgt := 594) hx hb dL_law_706 (by decide) ?_
        refine W.widen (k := (c + (k + 1) * 700)) (n := (t + (k + 1) * 20000)) (by omega) (by omega) ?_
        exact ihk (k + 1)  (by omega)  _ _ (gtP hP [0, 1] rfl) (gtD hD [0, 1] (by decide) rfl) hS _ (lv_sub hl [1, 2, 3, 4, 5, 6, 7, 8, 9, 0] rfl)
      | succ rmp ihp =>
        intro p hip H locs hP hD hS ls hl
        refine lv_iload hx hb dL_law_676 (lv_at hl 11 rfl) ?_
        refine lv_bipush (v := nI 6) hx hb dL_law_678 (by decide) ?_
        refine gN_ge (tgt := 703) hx hb dL_law_680 (by decide) (by omega) (by decide) (fun c30 => absurd c30 (by omega)) (fun c30 => ?_)
        refine lv_aload hx hb dL_law_683 (lv_at hl 10 rfl) ?_
        refine lv_iconst (v := nI 1) hx hb dL_law_685 (by decide) ?_
        refine lv_iload hx hb dL_law_686 (lv_at hl 11 rfl) ?_
        refine lv_ishl hx hb dL_law_688 ?_
        refine gTop (y := (nI (2 ^ p))) (n_one_shl (by omega)) ?_
        refine gCSJ (As := [.ref q24, .int (nI (2 ^ p))]) (rest := []) hE (k_isIn l G q24 kn kn kq kN kf v (2 ^ p) (by omega) hkN hkf (fun j9 hj9 => (hkv j9 hj9).1) (show 2 ^ p < 2 ^ 6 from Nat.pow_lt_pow_right (by decide) (by omega))) (va_cwS 2 hts gL_law_L_isIn rfl rfl rfl (by decide +kernel) ⟨Nat.le_of_ble_eq_true rfl, Nat.le_of_ble_eq_true rfl⟩) ⟨hx, hb, hml, hown, hts⟩ hK hP hD hS hA (gJ1 [(ci, .inl (G.2.2.1 0, 4, .inl (nA C))), (pe, .inl (G.2.2.1 1, 8, .inr (.inr (.inr (.inr pf)))))]  (tlW G q24 kn kn kq kN kf) (dW G am zm ++ (dW G ab zb ++ ((itW it25 i la tn to ++ tlW G to tn tn tq tN tf) ++ (va_pl LP (iF G D)))))) rfl hl rfl (Nat.le_of_ble_eq_true rfl) dL_law_689 ⟨Nat.le_trans (show ((c + k * 700 + i + p * 102) + 2) + 102 ≤ 500000 by omega) hR.1, Nat.le_trans (show ((t + k * 20000 + i * 300 + p * 900) + 7) + 900 ≤ 6000000 by omega) hR.2⟩ (fun y31 H locs hu hP hD hS => ?_)
        obtain ⟨hley31, hspy31⟩ := hu
        have hzy31 : y31 = 0 := (Nat.eq_zero_or_pos y31).elim id (fun h9 => absurd (hspy31 (by omega)) (no_give hIm.2.1.1 hk4 hkv (show p < 6 by omega)))
        have hP : va_P (gD G) vwCl ([(ci, .inl (G.2.2.1 0, 4, .inl (nA C))), (pe, .inl (G.2.2.1 1, 8, .inr (.inr (.inr (.inr pf)))))] ++ (tlW G q24 kn kn kq kN kf ++ (dW G am zm ++ (dW G ab zb ++ ((itW it25 i la tn to ++ tlW G to tn tn tq tN tf) ++ (va_pl LP (iF G D))))))) H := hP
        have hD : va_D A ([(ci, .inl (G.2.2.1 0, 4, .inl (nA C))), (pe, .inl (G.2.2.1 1, 8, .inr (.inr (.inr (.inr pf)))))] ++ (tlW G q24 kn kn kq kN kf ++ (dW G am zm ++ (dW G ab zb ++ ((itW it25 i la tn to ++ tlW G to tn tn tq tN tf) ++ (va_pl LP (iF G D))))))) := hD
        refine W.widen (k := ((c + k * 700 + i + p * 102) + 104)) (n := ((t + k * 20000 + i * 300 + p * 900) + 907)) (by show ((c + k * 700 + i + p * 102) + 2) + 102 ≤ ((c + k * 700 + i + p * 102) + 104); omega) (by show ((t + k * 20000 + i * 300 + p * 900) + 7) + 900 ≤ ((t + k * 20000 + i * 300 + p * 900) + 907); omega) ?_
        refine W.eq (g2 := F0 m9 692 ls [.int (nI y31)]) rfl ?_
        refine gTop (y := nI 0) (congrArg nI hzy31) ?_
        refine gN_eq0 (tgt := 697) hx hb dL_law_692 (by decide) (by decide) (fun c32 => ?_) (fun c32 => absurd c32 (by omega))
        refine lv_iinc (lv' := [(14, .int (nI (p + 1))), (0, .ref (G.2.2.2 259)), (1, .ref (am 0)), (2, .ref (ab 0)), (3, .ref ci), (4, .ref to), (5, .ref pe), (6, .int (nI np)), (7, .int (nI nt)), (8, .int (nI n)), (12, .int (nI k)), (13, .ref q24)]) hx hb dL_law_697 hl (k := 11) rfl (n_inc _) (by decide) rfl (fun ls hl => ?_)
        refine lv_goto (tgt := 676) hx hb dL_law_700 (by decide) ?_
        refine W.widen (k := ((c + k * 700 + i + (p + 1) * 102) + 2)) (n := ((t + k * 20000 + i * 300 + (p + 1) * 900) + 7)) (by omega) (by omega) ?_
        exact ihp (p + 1)  (by omega)  _ _ (gtP hP [0, 1] rfl) (gtD hD [0, 1] (by decide) rfl) hS _ (lv_sub hl [1, 2, 3, 4, 5, 6, 7, 8, 9, 10, 11, 0] rfl)
    | succ rmi ihi =>
      intro i la kn kq kN kf v hii hkn hkN hkf hkv H locs hP hD hS ls hl
      refine lv_aload hx hb dL_law_618 (lv_at hl 11 rfl) ?_
      refine gCFJ (ci := 1) (q0 := 0) (C := RJx35411) (As := []) (rest := []) hE (k_hasNext l G it25 i la to tn tn tq tN tf (by omega) (by omega)) (va_cwF 0 hts gL_law_Jx35411_hasNext_aae02_f102Jx35411 rfl rfl rfl (hE.face 4 rfl) (by decide +kernel) ⟨Nat.le_of_ble_eq_true rfl, Nat.le_of_ble_eq_true rfl⟩) (hK.1 1 _ rfl).2 ⟨hx, hb, hml, hown, hts⟩ hK hP hD hS hA (gJ4 [(ci, .inl (G.2.2.1 0, 4, .inl (nA C))), (pe, .inl (G.2.2.1 1, 8, .inr (.inr (.inr (.inr pf)))))] (tlW G q24 kn kn kq kN kf) (dW G am zm) (dW G ab zb) (itW it25 i la tn to ++ tlW G to tn tn tq tN tf) (va_pl LP (iF G D))) rfl rfl rfl hl rfl (Nat.le_of_ble_eq_true rfl) dL_law_620 ⟨Nat.le_trans (show ((c + k * 700 + i) + 2) + 0 ≤ 500000 by omega) hR.1, Nat.le_trans (show ((t + k * 20000 + i * 300) + 7) + 0 ≤ 6000000 by omega) hR.2⟩ (fun u9 H locs hu hP hD hS => ?_)
      have hP : va_P (gD G) vwCl ([(ci, .inl (G.2.2.1 0, 4, .inl (nA C))), (pe, .inl (G.2.2.1 1, 8, .inr (.inr (.inr (.inr pf)))))] ++ (tlW G q24 kn kn kq kN kf ++ (dW G am zm ++ (dW G ab zb ++ ((itW it25 i la tn to ++ tlW G to tn tn tq tN tf) ++ (va_pl LP (iF G D))))))) H := hP
      have hD : va_D A ([(ci, .inl (G.2.2.1 0, 4, .inl (nA C))), (pe, .inl (G.2.2.1 1, 8, .inr (.inr (.inr (.inr pf)))))] ++ (tlW G q24 kn kn kq kN kf ++ (dW G am zm ++ (dW G ab zb ++ ((itW it25 i la tn to ++ tlW G to tn tn tq tN tf) ++ (va_pl LP (iF G D))))))) := hD
      refine W.widen (k := ((c + k * 700 + i) + 2)) (n := ((t + k * 20000 + i * 300) + 7)) (by show ((c + k * 700 + i) + 2) + 0 ≤ ((c + k * 700 + i) + 2); omega) (by show ((t + k * 20000 + i * 300) + 7) + 0 ≤ ((t + k * 20000 + i * 300) + 7); omega) ?_
      refine W.eq (g2 := F0 m9 625 ls [.int (nI (if i = tn then 0 else 1))]) rfl ?_
      refine gTop (y := nI 1) (congrArg nI (if_neg (by omega))) ?_
      refine gN_eq0 (tgt := 673) hx hb dL_law_625 (by decide) (by decide) (fun c33 => absurd c33 (by omega)) (fun c33 => ?_)
      obtain ⟨y, hy, hyL, hy0, hy1, hyb⟩ := htl i (by omega)
      refine lv_aload hx hb dL_law_628 (lv_at hl 11 rfl) ?_
      refine gCFJ (ci := 1) (q0 := 0) (C := RJx35411) (As := []) (rest := []) hE (k_next l G it25 i la to tn tn tq tN tf y (by omega) htN (by omega) hy) (va_cwF 0 hts gL_law_Jx35411_next_0502b_f108Jx35411 rfl rfl rfl (hE.face 5 rfl) (by decide +kernel) ⟨Nat.le_of_ble_eq_true rfl, Nat.le_of_ble_eq_true rfl⟩) (hK.1 1 _ rfl).2 ⟨hx, hb, hml, hown, hts⟩ hK hP hD hS hA (gJ4 [(ci, .inl (G.2.2.1 0, 4, .inl (nA C))), (pe, .inl (G.2.2.1 1, 8, .inr (.inr (.inr (.inr pf)))))] (tlW G q24 kn kn kq kN kf) (dW G am zm) (dW G ab zb) (itW it25 i la tn to ++ tlW G to tn tn tq tN tf) (va_pl LP (iF G D))) rfl rfl rfl hl rfl (Nat.le_of_ble_eq_true rfl) dL_law_630 ⟨Nat.le_trans (show ((c + k * 700 + i) + 2) + 0 ≤ 500000 by omega) hR.1, Nat.le_trans (show ((t + k * 20000 + i * 300) + 7) + 0 ≤ 6000000 by omega) hR.2⟩ (fun u9 H locs hu hP hD hS => ?_)
      have hP : va_P (gD G) vwCl ([(ci, .inl (G.2.2.1 0, 4, .inl (nA C))), (pe, .inl (G.2.2.1 1, 8, .inr (.inr (.inr (.inr pf)))))] ++ (tlW G q24 kn kn kq kN kf ++ (dW G am zm ++ (dW G ab zb ++ ((itW it25 (i + 1) (nI i) tn to ++ tlW G to tn tn tq tN tf) ++ (va_pl LP (iF G D))))))) H := hP
      have hD : va_D A ([(ci, .inl (G.2.2.1 0, 4, .inl (nA C))), (pe, .inl (G.2.2.1 1, 8, .inr (.inr (.inr (.inr pf)))))] ++ (tlW G q24 kn kn kq kN kf ++ (dW G am zm ++ (dW G ab zb ++ ((itW it25 (i + 1) (nI i) tn to ++ tlW G to tn tn tq tN tf) ++ (va_pl LP (iF G D))))))) := hD
      refine W.widen (k := ((c + k * 700 + i) + 2)) (n := ((t + k * 20000 + i * 300) + 7)) (by show ((c + k * 700 + i) + 2) + 0 ≤ ((c + k * 700 + i) + 2); omega) (by show ((t + k * 20000 + i * 300) + 7) + 0 ≤ ((t + k * 20000 + i * 300) + 7); omega) ?_
      refine W.eq (g2 := F0 m9 635 ls [.ref y]) rfl ?_
      obtain ⟨k34, hk34⟩ := List.getElem?_of_mem (show (y, iF G D y) ∈ ([(ci, .inl (G.2.2.1 0, 4, .inl (nA C))), (pe, .inl (G.2.2.1 1, 8, .inr (.inr (.inr (.inr pf)))))] ++ (tlW G q24 kn kn kq kN kf ++ (dW G am zm ++ (dW G ab zb ++ ((itW it25 (i + 1) (nI i) tn to ++ tlW G to tn tn tq tN tf) ++ (va_pl LP (iF G D))))))) from List.mem_append_right _ (List.mem_append_right _ (List.mem_append_right _ (List.mem_append_right _ (List.mem_append_right _ (List.mem_map.mpr ⟨y, hyL, rfl⟩))))))
      refine va_castA hx hb hown (hts (.classLink RL 68 "[I") (by decide +kernel)) hP k34 hk34 (hK.2 0 _ rfl).2 dL_law_635 ?_
      refine lv_astore (lv' := [(15, .ref y), (0, .ref (G.2.2.2 259)), (1, .ref (am 0)), (2, .ref (ab 0)), (3, .ref ci), (4, .ref to), (5, .ref pe), (6, .int (nI np)), (7, .int (nI nt)), (8, .int (nI n)), (12, .int (nI k)), (13, .ref q24), (14, .ref it25)]) hx hb dL_law_638 hl (by decide) rfl (fun ls hl => ?_)
      refine lv_aload_n hx hb dL_law_640 rfl (lv_at hl 4 rfl) ?_
      refine lv_iload hx hb dL_law_641 (lv_at hl 10 rfl) ?_
      refine gN_iald hx hb hK hP 0 0 rfl rfl (by omega) (by decide) dL_law_643 ?_
      refine lv_aload hx hb dL_law_644 (lv_at hl 0 rfl) ?_
      refine lv_iconst (v := nI 0) hx hb dL_law_646 (by decide) ?_
      obtain ⟨k35, hk35⟩ := List.getElem?_of_mem (show (y, iF G D y) ∈ ([(ci, .inl (G.2.2.1 0, 4, .inl (nA C))), (pe, .inl (G.2.2.1 1, 8, .inr (.inr (.inr (.inr pf)))))] ++ (tlW G q24 kn kn kq kN kf ++ (dW G am zm ++ (dW G ab zb ++ ((itW it25 (i + 1) (nI i) tn to ++ tlW G to tn tn tq tN tf) ++ (va_pl LP (iF G D))))))) from List.mem_append_right _ (List.mem_append_right _ (List.mem_append_right _ (List.mem_append_right _ (List.mem_append_right _ (List.mem_map.mpr ⟨y, hyL, rfl⟩))))))
      refine gN_iald (f := D y) hx hb hK hP k35 0 hk35 rfl (by decide) (by decide) dL_law_647 ?_
      refine lv_ishr hx hb dL_law_648 ?_
      refine gTop (y := (nI ((C k) / 2 ^ (D y 0)))) (n_shr (by omega) (by omega)) ?_
      refine lv_iconst (v := nI 1) hx hb dL_law_649 (by decide) ?_
      refine lv_iand hx hb dL_law_650 ?_
      refine gTop (y := (nI (((C k) / 2 ^ (D y 0)) &&& 1))) (n_and _ _) ?_
      refine lv_iconst (v := nI 1) hx hb dL_law_651 (by decide) ?_
      refine gN_ne (tgt := 670) hx hb dL_law_652 (by decide) (and1_lt _) (by decide) (fun c36 => ?_) (fun c36 => ?_)
      · refine lv_goto (tgt := 618) hx hb dL_law_670 (by decide) ?_
        refine W.widen (k := ((c + k * 700 + (i + 1)) + 2)) (n := ((t + k * 20000 + (i + 1) * 300) + 7)) (by omega) (by omega) ?_
        exact ihi (i + 1) (nI i) kn kq kN kf v (by omega) (by omega) hkN hkf hkv _ _ (gtP hP [0, 1] rfl) (gtD hD [0, 1] (by decide) rfl) hS _ (lv_sub hl [1, 2, 3, 4, 5, 6, 7, 8, 9, 10, 11, 12] rfl)
      · refine lv_aload hx hb dL_law_655 (lv_at hl 11 rfl) ?_
        refine lv_aload hx hb dL_law_657 (lv_at hl 0 rfl) ?_
        refine lv_iconst (v := nI 1) hx hb dL_law_659 (by decide) ?_
        obtain ⟨k37, hk37⟩ := List.getElem?_of_mem (show (y, iF G D y) ∈ ([(ci, .inl (G.2.2.1 0, 4, .inl (nA C))), (pe, .inl (G.2.2.1 1, 8, .inr (.inr (.inr (.inr pf)))))] ++ (tlW G q24 kn kn kq kN kf ++ (dW G am zm ++ (dW G ab zb ++ ((itW it25 (i + 1) (nI i) tn to ++ tlW G to tn tn tq tN tf) ++ (va_pl LP (iF G D))))))) from List.mem_append_right _ (List.mem_append_right _ (List.mem_append_right _ (List.mem_append_right _ (List.mem_append_right _ (List.mem_map.mpr ⟨y, hyL, rfl⟩))))))
        refine gN_iald (f := D y) hx hb hK hP k37 0 hk37 rfl (by decide) (by decide) dL_law_660 ?_
        refine gCSJ (As := [.int (nI (D y 1))]) (rest := [.ref q24]) hE (c_valueOf l G (D y 1) (by omega)) (va_cwS 1 hts gL_law_J6_valueOf_2dffe rfl rfl rfl (by decide +kernel) ⟨Nat.le_of_ble_eq_true rfl, Nat.le_of_ble_eq_true rfl⟩) ⟨hx, hb, hml, hown, hts⟩ hK hP hD hS hA (gJz ([(ci, .inl (G.2.2.1 0, 4, .inl (nA C))), (pe, .inl (G.2.2.1 1, 8, .inr (.inr (.inr (.inr pf)))))] ++ (tlW G q24 kn kn kq kN kf ++ (dW G am zm ++ (dW G ab zb ++ ((itW it25 (i + 1) (nI i) tn to ++ tlW G to tn tn tq tN tf) ++ (va_pl LP (iF G D)))))))) rfl hl rfl (Nat.le_of_ble_eq_true rfl) dL_law_661 ⟨Nat.le_trans (show ((c + k * 700 + i) + 2) + 0 ≤ 500000 by omega) hR.1, Nat.le_trans (show ((t + k * 20000 + i * 300) + 7) + 0 ≤ 6000000 by omega) hR.2⟩ (fun u9 H locs hu hP hD hS => ?_)
        have hP : va_P (gD G) vwCl ([(ci, .inl (G.2.2.1 0, 4, .inl (nA C))), (pe, .inl (G.2.2.1 1, 8, .inr (.inr (.inr (.inr pf)))))] ++ (tlW G q24 kn kn kq kN kf ++ (dW G am zm ++ (dW G ab zb ++ ((itW it25 (i + 1) (nI i) tn to ++ tlW G to tn tn tq tN tf) ++ (va_pl LP (iF G D))))))) H := hP
        have hD : va_D A ([(ci, .inl (G.2.2.1 0, 4, .inl (nA C))), (pe, .inl (G.2.2.1 1, 8, .inr (.inr (.inr (.inr pf)))))] ++ (tlW G q24 kn kn kq kN kf ++ (dW G am zm ++ (dW G ab zb ++ ((itW it25 (i + 1) (nI i) tn to ++ tlW G to tn tn tq tN tf) ++ (va_pl LP (iF G D))))))) := hD
        refine W.widen (k := ((c + k * 700 + i) + 2)) (n := ((t + k * 20000 + i * 300) + 7)) (by show ((c + k * 700 + i) + 2) + 0 ≤ ((c + k * 700 + i) + 2); omega) (by show ((t + k * 20000 + i * 300) + 7) + 0 ≤ ((t + k * 20000 + i * 300) + 7); omega) ?_
        refine W.eq (g2 := F0 m9 664 ls [.ref (gI G ((D y 1) + 128)), .ref q24]) rfl ?_
        refine gCFJ (ci := 2) (q0 := 0) (C := RJx4a65c) (As := [.ref (gI G ((D y 1) + 128))]) (rest := []) hE (k_L_addI l G q24 kn kn kq kN kf ((D y 1) + 128) (by omega) (by omega) (by omega) hkN (fun j9 hj9 => ⟨v j9 + 128, by have := (hkv j9 hj9).1; omega, hkf j9 hj9⟩)) (va_cwF 1 hts gL_law_Jx4a65c_add_9ea2d_f94Jx4a65c rfl rfl rfl (hE.face 2 rfl) (by decide +kernel) ⟨Nat.le_of_ble_eq_true rfl, Nat.le_of_ble_eq_true rfl⟩) (hK.1 2 _ rfl).2 ⟨hx, hb, hml, hown, hts⟩ hK hP hD hS hA (gJ1 [(ci, .inl (G.2.2.1 0, 4, .inl (nA C))), (pe, .inl (G.2.2.1 1, 8, .inr (.inr (.inr (.inr pf)))))]  (tlW G q24 kn kn kq kN kf) (dW G am zm ++ (dW G ab zb ++ ((itW it25 (i + 1) (nI i) tn to ++ tlW G to tn tn tq tN tf) ++ (va_pl LP (iF G D)))))) rfl rfl rfl hl rfl (Nat.le_of_ble_eq_true rfl) dL_law_664 ⟨Nat.le_trans (show ((c + k * 700 + i) + 2) + 1 ≤ 500000 by omega) hR.1, Nat.le_trans (show ((t + k * 20000 + i * 300) + 7) + 300 ≤ 6000000 by omega) hR.2⟩ (fun u9 H locs hu hP hD hS => ?_)
        obtain ⟨q38, N38, f38⟩ := u9
        obtain ⟨hN38, ho38, hv38⟩ := hu
        have hN38 : tlN (kn + 1) N38 := hN38
        have ho38 : ∀ j, j < kn → f38 j = kf j := ho38
        have hv38 : f38 kn = some (gI G ((D y 1) + 128)) := hv38
        have hP : va_P (gD G) vwCl ([(ci, .inl (G.2.2.1 0, 4, .inl (nA C))), (pe, .inl (G.2.2.1 1, 8, .inr (.inr (.inr (.inr pf)))))] ++ (tlW G q24 (kn + 1) (kn + 1) q38 N38 f38 ++ (dW G am zm ++ (dW G ab zb ++ ((itW it25 (i + 1) (nI i) tn to ++ tlW G to tn tn tq tN tf) ++ (va_pl LP (iF G D))))))) H := hP
        have hD : va_D A ([(ci, .inl (G.2.2.1 0, 4, .inl (nA C))), (pe, .inl (G.2.2.1 1, 8, .inr (.inr (.inr (.inr pf)))))] ++ (tlW G q24 (kn + 1) (kn + 1) q38 N38 f38 ++ (dW G am zm ++ (dW G ab zb ++ ((itW it25 (i + 1) (nI i) tn to ++ tlW G to tn tn tq tN tf) ++ (va_pl LP (iF G D))))))) := hD
        refine W.widen (k := ((c + k * 700 + i) + 3)) (n := ((t + k * 20000 + i * 300) + 307)) (by show ((c + k * 700 + i) + 2) + 1 ≤ ((c + k * 700 + i) + 3); omega) (by show ((t + k * 20000 + i * 300) + 7) + 300 ≤ ((t + k * 20000 + i * 300) + 307); omega) ?_
        refine W.eq (g2 := F0 m9 669 ls [.int (nI 1)]) rfl ?_
        refine lv_pop hx hb dL_law_669 rfl ?_
        refine lv_goto (tgt := 618) hx hb dL_law_670 (by decide) ?_
        have hkf2 : ∀ j, j < kn + 1 → f38 j = some (gI G (va_up v kn (D y 1) j + 128)) := fun j9 hj9 => by
          by_cases e9 : j9 = kn
          · rw [e9, va_up_self]; exact hv38
          · rw [va_up_ne _ _ e9, ho38 j9 (by omega)]; exact hkf j9 (by omega)
        have hkv2 : ∀ j, j < kn + 1 → (va_up v kn (D y 1)) j < 64 ∧ ∃ a, (cir (zm.1 8) k).testBit a = true ∧ (zm.1 9 ((va_up v kn (D y 1)) j)).testBit a = true := fun j9 hj9 => by
          by_cases e9 : j9 = kn
          · rw [e9, va_up_self]; exact ⟨hy1, D y 0, by rw [← hC k hk4]; exact bit_yes c36, hyb⟩
          · rw [va_up_ne _ _ e9]; exact hkv j9 (by omega)
        refine W.widen (k := ((c + k * 700 + (i + 1)) + 2)) (n := ((t + k * 20000 + (i + 1) * 300) + 7)) (by omega) (by omega) ?_
        exact ihi (i + 1) (nI i) (kn + 1) q38 N38 f38 (va_up v kn (D y 1)) (by omega) (by omega) hN38 hkf2 hkv2 _ _ (gtP hP [0, 1] rfl) (gtD hD [0, 1] (by decide) rfl) hS _ (lv_sub hl [1, 2, 3, 4, 5, 6, 7, 8, 9, 10, 11, 12] rfl)
