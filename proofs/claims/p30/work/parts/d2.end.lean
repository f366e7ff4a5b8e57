set_option maxHeartbeats 8000000 in
set_option maxRecDepth 100000 in
/-- the end: both are sound -/
theorem lw_end {P9 : Program} {l : Launch} {e9 : Env} {s : State} {m9 : MethodId} {args : Array Value} {below : List Frame} {meth : Method} {c9 : Code} {Q : State → Prop} {G : gG} {A : Nat → Prop} {am ab : Nat → Nat} {ci pe to : Nat} (hX : lX P9 s m9 c9 args G A) (c t : Nat) (hc : c ≤ 499000) (ht : t ≤ 5990000) (K : ∀ (H : Heap) (locs : List Loc) (ls : Array Slot), va_S A s.heap H locs → W P9 l e9 room_1 s m9 args below meth c9 H locs c t Q (F0 m9 955 ls [.int (nI 1)])) : HD P9 l e9 s m9 args below meth c9 Q G A am ab ci pe to 130 48 48 c t := by
  obtain ⟨hx, hb, hml, hown, hts, hK, hA, hE, hR⟩ := id hX
  intro zm zb C tn tq tN tf LP D pf np nt hI H locs hP hD hS ls hl
  obtain ⟨⟨hIm, hIb, hfc⟩, hC, ⟨htn, htN, htl⟩, hpp, hnp, hnt⟩ := id hI
  have hnp8 : np ≤ 8 := hnp ▸ hIm.1.2.2.1
  have hnt10 : nt ≤ 10 := hnt ▸ hIm.1.2.1.1.1
  refine lv_iload hx hb dL_law_130 (lv_at hl 8 rfl) ?_
  refine lv_bipush (v := nI 48) hx hb dL_law_132 (by decide) ?_
  refine gN_ge (tgt := 936) hx hb dL_law_134 (by decide) (by decide) (by decide) (fun c21 => ?_) (fun c21 => absurd c21 (by omega))
  refine lv_aload_n hx hb dL_law_936 rfl (lv_at hl 1 rfl) ?_
  refine gCVJ (ci := 9) (q0 := 0) (C := RX6) (As := []) (rest := []) hE (k_isSound l G am zm hIm) (cwV 0 hts gL_law_X6_isSound rfl rfl rfl (by decide +kernel) ⟨Nat.le_of_ble_eq_true rfl, Nat.le_of_ble_eq_true rfl⟩) ⟨hx, hb, hml, hown, hts⟩ hK hP hD hS hA (gJ1 [(ci, .inl (G.2.2.1 0, 4, .inl (nA C))), (pe, .inl (G.2.2.1 1, 8, .inr (.inr (.inr (.inr pf)))))]  (dW G am zm) (dW G ab zb ++ (tlW G to tn tn tq tN tf ++ (va_pl LP (iF G D))))) rfl rfl rfl hl rfl (Nat.le_of_ble_eq_true rfl) dL_law_937 ⟨Nat.le_trans (show c + 0 ≤ 500000 by omega) hR.1, Nat.le_trans (show t + 0 ≤ 6000000 by omega) hR.2⟩ (fun z22 H locs hu hP hD hS => ?_)
  have hP : va_P (gD G) vwCl ([(ci, .inl (G.2.2.1 0, 4, .inl (nA C))), (pe, .inl (G.2.2.1 1, 8, .inr (.inr (.inr (.inr pf)))))] ++ (dW G am z22 ++ (dW G ab zb ++ (tlW G to tn tn tq tN tf ++ (va_pl LP (iF G D)))))) H := hP
  have hD : va_D A ([(ci, .inl (G.2.2.1 0, 4, .inl (nA C))), (pe, .inl (G.2.2.1 1, 8, .inr (.inr (.inr (.inr pf)))))] ++ (dW G am z22 ++ (dW G ab zb ++ (tlW G to tn tn tq tN tf ++ (va_pl LP (iF G D)))))) := hD
  refine W.widen (k := c) (n := t) (by show c + 0 ≤ c; omega) (by show t + 0 ≤ t; omega) ?_
  refine W.eq (g2 := F0 m9 940 ls [.int (nI 1)]) rfl ?_
  refine gN_eq0 (tgt := 954) hx hb dL_law_940 (by decide) (by decide) (fun c23 => absurd c23 (by omega)) (fun c23 => ?_)
  refine lv_aload_n hx hb dL_law_943 rfl (lv_at hl 2 rfl) ?_
  refine gCVJ (ci := 9) (q0 := 0) (C := RX6) (As := []) (rest := []) hE (k_isSound l G ab zb hIb) (cwV 0 hts gL_law_X6_isSound rfl rfl rfl (by decide +kernel) ⟨Nat.le_of_ble_eq_true rfl, Nat.le_of_ble_eq_true rfl⟩) ⟨hx, hb, hml, hown, hts⟩ hK hP hD hS hA (gJ2 [(ci, .inl (G.2.2.1 0, 4, .inl (nA C))), (pe, .inl (G.2.2.1 1, 8, .inr (.inr (.inr (.inr pf)))))] (dW G am z22) (dW G ab zb) (tlW G to tn tn tq tN tf ++ (va_pl LP (iF G D)))) rfl rfl rfl hl rfl (Nat.le_of_ble_eq_true rfl) dL_law_944 ⟨Nat.le_trans (show c + 0 ≤ 500000 by omega) hR.1, Nat.le_trans (show t + 0 ≤ 6000000 by omega) hR.2⟩ (fun z24 H locs hu hP hD hS => ?_)
  have hP : va_P (gD G) vwCl ([(ci, .inl (G.2.2.1 0, 4, .inl (nA C))), (pe, .inl (G.2.2.1 1, 8, .inr (.inr (.inr (.inr pf)))))] ++ (dW G am z22 ++ (dW G ab z24 ++ (tlW G to tn tn tq tN tf ++ (va_pl LP (iF G D)))))) H := hP
  have hD : va_D A ([(ci, .inl (G.2.2.1 0, 4, .inl (nA C))), (pe, .inl (G.2.2.1 1, 8, .inr (.inr (.inr (.inr pf)))))] ++ (dW G am z22 ++ (dW G ab z24 ++ (tlW G to tn tn tq tN tf ++ (va_pl LP (iF G D)))))) := hD
  refine W.widen (k := c) (n := t) (by show c + 0 ≤ c; omega) (by show t + 0 ≤ t; omega) ?_
  refine W.eq (g2 := F0 m9 947 ls [.int (nI 1)]) rfl ?_
  refine gN_eq0 (tgt := 954) hx hb dL_law_947 (by decide) (by decide) (fun c25 => absurd c25 (by omega)) (fun c25 => ?_)
  refine lv_iconst (v := nI 1) hx hb dL_law_950 (by decide) ?_
  refine lv_goto (tgt := 955) hx hb dL_law_951 (by decide) ?_
  exact K _ _ _ hS
