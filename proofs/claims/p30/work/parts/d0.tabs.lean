set_option maxHeartbeats 8000000 in
set_option maxRecDepth 100000 in
/-- one table -/
theorem lw_tab1 {P9 : Program} {l : Launch} {e9 : Env} {s : State} {m9 : MethodId} {args : Array Value} {below : List Frame} {meth : Method} {c9 : Code} {Q : State → Prop} {G : gG} {A : Nat → Prop} {am ab : Nat → Nat} {ci pe to : Nat} (hX : lX P9 s m9 c9 args G A) (zm zb : DSt) (C : Nat → Nat) (tn tq tN : Nat) (tf : Nat → Option Nat) (LP : List Nat) (D : Nat → Nat → Nat) (pf : Nat → Option Nat) (np nt : Nat) (n c t j ln : Nat) (hn : n < 48) (hc : c ≤ 499000) (ht : t ≤ 5990000) (hI : RI (n + 1) zm zb C tn tN tf LP D pf np nt) (hj : j < nt) (hln : ln < 128) (hlp : ∀ i k, i < k → k < 6 → ln.testBit i = true → ln.testBit k = true → ¬ (zm.1 1 i).testBit k = true) (K : ∀ (H : Heap) (locs : List Loc), va_P (gD G) vwCl ([(ci, .inl (G.2.2.1 0, 4, .inl (nA C))), (pe, .inl (G.2.2.1 1, 8, .inr (.inr (.inr (.inr pf)))))] ++ (dW G am zm ++ (dW G ab zb ++ (tlW G to tn tn tq tN tf ++ (va_pl LP (iF G D)))))) H → va_D A ([(ci, .inl (G.2.2.1 0, 4, .inl (nA C))), (pe, .inl (G.2.2.1 1, 8, .inr (.inr (.inr (.inr pf)))))] ++ (dW G am zm ++ (dW G ab zb ++ (tlW G to tn tn tq tN tf ++ (va_pl LP (iF G D)))))) → va_S A s.heap H locs → ∀ ls : Array Slot, lv_has ls 16 [(0, .ref (G.2.2.2 259)), (1, .ref (am 0)), (2, .ref (ab 0)), (3, .ref ci), (4, .ref to), (5, .ref pe), (6, .int (nI np)), (7, .int (nI nt)), (8, .int (nI n)), (12, .int (nI j))] → W P9 l e9 room_1 s m9 args below meth c9 H locs c t Q (F0 m9 819 ls [])) : ∀ (H : Heap) (locs : List Loc), va_P (gD G) vwCl ([(ci, .inl (G.2.2.1 0, 4, .inl (nA C))), (pe, .inl (G.2.2.1 1, 8, .inr (.inr (.inr (.inr pf)))))] ++ (dW G am zm ++ (dW G ab zb ++ (tlW G to tn tn tq tN tf ++ (va_pl LP (iF G D)))))) H → va_D A ([(ci, .inl (G.2.2.1 0, 4, .inl (nA C))), (pe, .inl (G.2.2.1 1, 8, .inr (.inr (.inr (.inr pf)))))] ++ (dW G am zm ++ (dW G ab zb ++ (tlW G to tn tn tq tN tf ++ (va_pl LP (iF G D)))))) → va_S A s.heap H locs → ∀ ls : Array Slot, lv_has ls 16 [(0, .ref (G.2.2.2 259)), (1, .ref (am 0)), (2, .ref (ab 0)), (3, .ref ci), (4, .ref to), (5, .ref pe), (6, .int (nI np)), (7, .int (nI nt)), (8, .int (nI n)), (12, .int (nI j)), (13, .int (nI ln))] → W P9 l e9 room_1 s m9 args below meth c9 H locs c t Q (F0 m9 749 ls []) := by
  obtain ⟨hx, hb, hml, hown, hts, hK, hA, hE, hR⟩ := id hX
  intro H locs hP hD hS ls hl
  obtain ⟨⟨hIm, hIb, hfc⟩, hC, ⟨htn, htN, htl⟩, hpp, hnp, hnt⟩ := id hI
  have hnp8 : np ≤ 8 := hnp ▸ hIm.1.2.2.1
  have hnt10 : nt ≤ 10 := hnt ▸ hIm.1.2.1.1.1
  have hm7 := kinI_m7 hIm.1.1
  refine lv_iconst (v := nI 0) hx hb dL_law_749 (by decide) ?_
  refine lv_istore (lv' := [(14, .int (nI 0)), (0, .ref (G.2.2.2 259)), (1, .ref (am 0)), (2, .ref (ab 0)), (3, .ref ci), (4, .ref to), (5, .ref pe), (6, .int (nI np)), (7, .int (nI nt)), (8, .int (nI n)), (12, .int (nI j)), (13, .int (nI ln))]) hx hb dL_law_750 hl (by decide) rfl (fun ls hl => ?_)
  suffices L21 : ∀ (rmo one : Nat), one + rmo = 6 → ∀ (H : Heap) (locs : List Loc), va_P (gD G) vwCl ([(ci, .inl (G.2.2.1 0, 4, .inl (nA C))), (pe, .inl (G.2.2.1 1, 8, .inr (.inr (.inr (.inr pf)))))] ++ (dW G am zm ++ (dW G ab zb ++ (tlW G to tn tn tq tN tf ++ (va_pl LP (iF G D)))))) H → va_D A ([(ci, .inl (G.2.2.1 0, 4, .inl (nA C))), (pe, .inl (G.2.2.1 1, 8, .inr (.inr (.inr (.inr pf)))))] ++ (dW G am zm ++ (dW G ab zb ++ (tlW G to tn tn tq tN tf ++ (va_pl LP (iF G D)))))) → va_S A s.heap H locs → ∀ ls : Array Slot, lv_has ls 16 [(0, .ref (G.2.2.2 259)), (1, .ref (am 0)), (2, .ref (ab 0)), (3, .ref ci), (4, .ref to), (5, .ref pe), (6, .int (nI np)), (7, .int (nI nt)), (8, .int (nI n)), (12, .int (nI j)), (13, .int (nI ln)), (14, .int (nI one))] → W P9 l e9 room_1 s m9 args below meth c9 H locs c t Q (F0 m9 752 ls []) by
    exact L21 _ 0  (Nat.add_sub_cancel' (by omega))  _ _ (gtP hP [0, 1] rfl) (gtD hD [0, 1] (by decide) rfl) hS _ (lv_sub hl [1, 2, 3, 4, 5, 6, 7, 8, 9, 10, 11, 0] rfl)
  intro rmo
  induction rmo with
  | zero =>
    intro one hio H locs hP hD hS ls hl
    refine lv_iload hx hb dL_law_752 (lv_at hl 11 rfl) ?_
    refine lv_bipush (v := nI 6) hx hb dL_law_754 (by decide) ?_
    refine gN_ge (tgt := 819) hx hb dL_law_756 (by decide) (by omega) (by decide) (fun c22 => ?_) (fun c22 => absurd c22 (by omega))
    exact K  _ _ (gtP hP [0, 1] rfl) (gtD hD [0, 1] (by decide) rfl) hS _ (lv_sub hl [0, 1, 2, 3, 4, 5, 6, 7, 8, 9] rfl)
  | succ rmo iho =>
    intro one hio H locs hP hD hS ls hl
    refine lv_iload hx hb dL_law_752 (lv_at hl 11 rfl) ?_
    refine lv_bipush (v := nI 6) hx hb dL_law_754 (by decide) ?_
    refine gN_ge (tgt := 819) hx hb dL_law_756 (by decide) (by omega) (by decide) (fun c23 => absurd c23 (by omega)) (fun c23 => ?_)
    refine lv_iload hx hb dL_law_759 (lv_at hl 11 rfl) ?_
    refine lv_iconst (v := nI 1) hx hb dL_law_761 (by decide) ?_
    refine lv_iadd hx hb dL_law_762 ?_
    refine gTop (y := (nI (one + 1))) (nI_add _ _) ?_
    refine lv_istore (lv' := [(15, .int (nI (one + 1))), (0, .ref (G.2.2.2 259)), (1, .ref (am 0)), (2, .ref (ab 0)), (3, .ref ci), (4, .ref to), (5, .ref pe), (6, .int (nI np)), (7, .int (nI nt)), (8, .int (nI n)), (12, .int (nI j)), (13, .int (nI ln)), (14, .int (nI one))]) hx hb dL_law_763 hl (by decide) rfl (fun ls hl => ?_)
    suffices L24 : ∀ (rmq other : Nat), other + rmq = 6 → (one < other) → ∀ (H : Heap) (locs : List Loc), va_P (gD G) vwCl ([(ci, .inl (G.2.2.1 0, 4, .inl (nA C))), (pe, .inl (G.2.2.1 1, 8, .inr (.inr (.inr (.inr pf)))))] ++ (dW G am zm ++ (dW G ab zb ++ (tlW G to tn tn tq tN tf ++ (va_pl LP (iF G D)))))) H → va_D A ([(ci, .inl (G.2.2.1 0, 4, .inl (nA C))), (pe, .inl (G.2.2.1 1, 8, .inr (.inr (.inr (.inr pf)))))] ++ (dW G am zm ++ (dW G ab zb ++ (tlW G to tn tn tq tN tf ++ (va_pl LP (iF G D)))))) → va_S A s.heap H locs → ∀ ls : Array Slot, lv_has ls 16 [(0, .ref (G.2.2.2 259)), (1, .ref (am 0)), (2, .ref (ab 0)), (3, .ref ci), (4, .ref to), (5, .ref pe), (6, .int (nI np)), (7, .int (nI nt)), (8, .int (nI n)), (12, .int (nI j)), (13, .int (nI ln)), (14, .int (nI one)), (15, .int (nI other))] → W P9 l e9 room_1 s m9 args below meth c9 H locs c t Q (F0 m9 765 ls []) by
      exact L24 _ (one + 1)  (Nat.add_sub_cancel' (by omega)) (Nat.lt_succ_self one) _ _ (gtP hP [0, 1] rfl) (gtD hD [0, 1] (by decide) rfl) hS _ (lv_sub hl [1, 2, 3, 4, 5, 6, 7, 8, 9, 10, 11, 12, 0] rfl)
    intro rmq
    induction rmq with
    | zero =>
      intro other hiq hoo H locs hP hD hS ls hl
      refine lv_iload hx hb dL_law_765 (lv_at hl 12 rfl) ?_
      refine lv_bipush (v := nI 6) hx hb dL_law_767 (by decide) ?_
      refine gN_ge (tgt := 813) hx hb dL_law_769 (by decide) (by omega) (by decide) (fun c25 => ?_) (fun c25 => absurd c25 (by omega))
      refine lv_iinc (lv' := [(14, .int (nI (one + 1))), (0, .ref (G.2.2.2 259)), (1, .ref (am 0)), (2, .ref (ab 0)), (3, .ref ci), (4, .ref to), (5, .ref pe), (6, .int (nI np)), (7, .int (nI nt)), (8, .int (nI n)), (12, .int (nI j)), (13, .int (nI ln)), (15, .int (nI other))]) hx hb dL_law_813 hl (k := 11) rfl (n_inc _) (by decide) rfl (fun ls hl => ?_)
      refine lv_goto (tgt := 752) hx hb dL_law_816 (by decide) ?_
      exact iho (one + 1)  (by omega)  _ _ (gtP hP [0, 1] rfl) (gtD hD [0, 1] (by decide) rfl) hS _ (lv_sub hl [1, 2, 3, 4, 5, 6, 7, 8, 9, 10, 11, 0] rfl)
    | succ rmq ihq =>
      intro other hiq hoo H locs hP hD hS ls hl
      refine lv_iload hx hb dL_law_765 (lv_at hl 12 rfl) ?_
      refine lv_bipush (v := nI 6) hx hb dL_law_767 (by decide) ?_
      refine gN_ge (tgt := 813) hx hb dL_law_769 (by decide) (by omega) (by decide) (fun c26 => absurd c26 (by omega)) (fun c26 => ?_)
      have hl31 : ln < 2 ^ 31 := by omega
      have hg31 : zm.1 1 one < 2 ^ 31 := Nat.lt_trans (hm7 one (by omega)) (by decide)
      refine lv_iload hx hb dL_law_772 (lv_at hl 10 rfl) ?_
      refine lv_iload hx hb dL_law_774 (lv_at hl 11 rfl) ?_
      refine lv_ishr hx hb dL_law_776 ?_
      refine gTop (y := (nI (ln / 2 ^ one))) (n_shr (by omega) (by omega)) ?_
      refine lv_iload hx hb dL_law_777 (lv_at hl 10 rfl) ?_
      refine lv_iload hx hb dL_law_779 (lv_at hl 12 rfl) ?_
      refine lv_ishr hx hb dL_law_781 ?_
      refine gTop (y := (nI (ln / 2 ^ other))) (n_shr (by omega) (by omega)) ?_
      refine lv_iand hx hb dL_law_782 ?_
      refine gTop (y := (nI ((ln / 2 ^ one) &&& (ln / 2 ^ other)))) (n_and _ _) ?_
      refine lv_iconst (v := nI 1) hx hb dL_law_783 (by decide) ?_
      refine lv_iand hx hb dL_law_784 ?_
      refine gTop (y := (nI (((ln / 2 ^ one) &&& (ln / 2 ^ other)) &&& 1))) (n_and _ _) ?_
      refine lv_iconst (v := nI 1) hx hb dL_law_785 (by decide) ?_
      refine gN_ne (tgt := 807) hx hb dL_law_786 (by decide) (and1_lt _) (by decide) (fun c27 => ?_) (fun c27 => ?_)
      · refine lv_iinc (lv' := [(15, .int (nI (other + 1))), (0, .ref (G.2.2.2 259)), (1, .ref (am 0)), (2, .ref (ab 0)), (3, .ref ci), (4, .ref to), (5, .ref pe), (6, .int (nI np)), (7, .int (nI nt)), (8, .int (nI n)), (12, .int (nI j)), (13, .int (nI ln)), (14, .int (nI one))]) hx hb dL_law_807 hl (k := 12) rfl (n_inc _) (by decide) rfl (fun ls hl => ?_)
        refine lv_goto (tgt := 765) hx hb dL_law_810 (by decide) ?_
        exact ihq (other + 1)  (by omega) (by omega) _ _ (gtP hP [0, 1] rfl) (gtD hD [0, 1] (by decide) rfl) hS _ (lv_sub hl [1, 2, 3, 4, 5, 6, 7, 8, 9, 10, 11, 12, 0] rfl)
      · have hno := hlp one other hoo (by omega) (bit_both c27).1 (bit_both c27).2
        refine lv_aload_n hx hb dL_law_789 rfl (lv_at hl 1 rfl) ?_
        refine lv_iload hx hb dL_law_790 (lv_at hl 11 rfl) ?_
        refine lv_iconst (v := nI 1) hx hb dL_law_792 (by decide) ?_
        refine gCVJ (ci := 9) (q0 := 0) (C := RX6) (As := [.int (nI one), .int (nI 1)]) (rest := []) hE (k_ofSource1 l G am zm one hIm (by omega)) (cwV 2 hts gL_law_X6_ofSource rfl rfl rfl (by decide +kernel) ⟨Nat.le_of_ble_eq_true rfl, Nat.le_of_ble_eq_true rfl⟩) ⟨hx, hb, hml, hown, hts⟩ hK hP hD hS hA (gJ1 [(ci, .inl (G.2.2.1 0, 4, .inl (nA C))), (pe, .inl (G.2.2.1 1, 8, .inr (.inr (.inr (.inr pf)))))]  (dW G am zm) (dW G ab zb ++ (tlW G to tn tn tq tN tf ++ (va_pl LP (iF G D))))) rfl rfl rfl hl rfl (Nat.le_of_ble_eq_true rfl) dL_law_793 ⟨Nat.le_trans (show c + 0 ≤ 500000 by omega) hR.1, Nat.le_trans (show t + 0 ≤ 6000000 by omega) hR.2⟩ (fun u9 H locs hu hP hD hS => ?_)
        have hP : va_P (gD G) vwCl ([(ci, .inl (G.2.2.1 0, 4, .inl (nA C))), (pe, .inl (G.2.2.1 1, 8, .inr (.inr (.inr (.inr pf)))))] ++ (dW G am zm ++ (dW G ab zb ++ (tlW G to tn tn tq tN tf ++ (va_pl LP (iF G D)))))) H := hP
        have hD : va_D A ([(ci, .inl (G.2.2.1 0, 4, .inl (nA C))), (pe, .inl (G.2.2.1 1, 8, .inr (.inr (.inr (.inr pf)))))] ++ (dW G am zm ++ (dW G ab zb ++ (tlW G to tn tn tq tN tf ++ (va_pl LP (iF G D)))))) := hD
        refine W.widen (k := c) (n := t) (by show c + 0 ≤ c; omega) (by show t + 0 ≤ t; omega) ?_
        refine W.eq (g2 := F0 m9 796 ls [.int (nI (zm.1 1 one))]) rfl ?_
        refine lv_iload hx hb dL_law_796 (lv_at hl 12 rfl) ?_
        refine lv_ishr hx hb dL_law_798 ?_
        refine gTop (y := (nI ((zm.1 1 one) / 2 ^ other))) (n_shr (by omega) (by omega)) ?_
        refine lv_iconst (v := nI 1) hx hb dL_law_799 (by decide) ?_
        refine lv_iand hx hb dL_law_800 ?_
        refine gTop (y := (nI (((zm.1 1 one) / 2 ^ other) &&& 1))) (n_and _ _) ?_
        refine lv_iconst (v := nI 1) hx hb dL_law_801 (by decide) ?_
        have hno1 := bit_not hno
        refine gN_ne (tgt := 807) hx hb dL_law_802 (by decide) (and1_lt _) (by decide) (fun c29 => ?_) (fun c29 => absurd c29 hno1)
        refine lv_iinc (lv' := [(15, .int (nI (other + 1))), (0, .ref (G.2.2.2 259)), (1, .ref (am 0)), (2, .ref (ab 0)), (3, .ref ci), (4, .ref to), (5, .ref pe), (6, .int (nI np)), (7, .int (nI nt)), (8, .int (nI n)), (12, .int (nI j)), (13, .int (nI ln)), (14, .int (nI one))]) hx hb dL_law_807 hl (k := 12) rfl (n_inc _) (by decide) rfl (fun ls hl => ?_)
        refine lv_goto (tgt := 765) hx hb dL_law_810 (by decide) ?_
        exact ihq (other + 1)  (by omega) (by omega) _ _ (gtP hP [0, 1] rfl) (gtD hD [0, 1] (by decide) rfl) hS _ (lv_sub hl [1, 2, 3, 4, 5, 6, 7, 8, 9, 10, 11, 12, 0] rfl)
set_option maxHeartbeats 8000000 in
set_option maxRecDepth 100000 in
/-- the check: the tables -/
theorem lw_tabs {P9 : Program} {l : Launch} {e9 : Env} {s : State} {m9 : MethodId} {args : Array Value} {below : List Frame} {meth : Method} {c9 : Code} {Q : State → Prop} {G : gG} {A : Nat → Prop} {am ab : Nat → Nat} {ci pe to : Nat} (hX : lX P9 s m9 c9 args G A) (n c t : Nat) (hn : n < 48) (hc : c ≤ 499000) (ht : t ≤ 5990000) (K : HD P9 l e9 s m9 args below meth c9 Q G A am ab ci pe to 825 (n + 1) n c t) : HD P9 l e9 s m9 args below meth c9 Q G A am ab ci pe to 709 (n + 1) n c t := by
  obtain ⟨hx, hb, hml, hown, hts, hK, hA, hE, hR⟩ := id hX
  intro zm zb C tn tq tN tf LP D pf np nt hI H locs hP hD hS ls hl
  obtain ⟨⟨hIm, hIb, hfc⟩, hC, ⟨htn, htN, htl⟩, hpp, hnp, hnt⟩ := id hI
  have hnp8 : np ≤ 8 := hnp ▸ hIm.1.2.2.1
  have hnt10 : nt ≤ 10 := hnt ▸ hIm.1.2.1.1.1
  have htb := hIm.1.2.1
  refine lv_iconst (v := nI 0) hx hb dL_law_709 (by decide) ?_
  refine lv_istore (lv' := [(12, .int (nI 0)), (0, .ref (G.2.2.2 259)), (1, .ref (am 0)), (2, .ref (ab 0)), (3, .ref ci), (4, .ref to), (5, .ref pe), (6, .int (nI np)), (7, .int (nI nt)), (8, .int (nI n))]) hx hb dL_law_710 hl (by decide) rfl (fun ls hl => ?_)
  suffices L21 : ∀ (rmj j : Nat), j + rmj = nt → ∀ (H : Heap) (locs : List Loc), va_P (gD G) vwCl ([(ci, .inl (G.2.2.1 0, 4, .inl (nA C))), (pe, .inl (G.2.2.1 1, 8, .inr (.inr (.inr (.inr pf)))))] ++ (dW G am zm ++ (dW G ab zb ++ (tlW G to tn tn tq tN tf ++ (va_pl LP (iF G D)))))) H → va_D A ([(ci, .inl (G.2.2.1 0, 4, .inl (nA C))), (pe, .inl (G.2.2.1 1, 8, .inr (.inr (.inr (.inr pf)))))] ++ (dW G am zm ++ (dW G ab zb ++ (tlW G to tn tn tq tN tf ++ (va_pl LP (iF G D)))))) → va_S A s.heap H locs → ∀ ls : Array Slot, lv_has ls 16 [(0, .ref (G.2.2.2 259)), (1, .ref (am 0)), (2, .ref (ab 0)), (3, .ref ci), (4, .ref to), (5, .ref pe), (6, .int (nI np)), (7, .int (nI nt)), (8, .int (nI n)), (12, .int (nI j))] → W P9 l e9 room_1 s m9 args below meth c9 H locs c t Q (F0 m9 712 ls []) by
    exact L21 _ 0  (Nat.add_sub_cancel' (by omega))  _ _ (gtP hP [0, 1] rfl) (gtD hD [0, 1] (by decide) rfl) hS _ (lv_sub hl [1, 2, 3, 4, 5, 6, 7, 8, 9, 0] rfl)
  intro rmj
  induction rmj with
  | zero =>
    intro j hij H locs hP hD hS ls hl
    refine lv_iload hx hb dL_law_712 (lv_at hl 9 rfl) ?_
    refine lv_iload hx hb dL_law_714 (lv_at hl 7 rfl) ?_
    refine gN_ge (tgt := 825) hx hb dL_law_716 (by decide) (by omega) (by omega) (fun c22 => ?_) (fun c22 => absurd c22 (by omega))
    exact K zm zb C tn tq tN tf LP D pf np nt hI _ _ (gtP hP [0, 1] rfl) (gtD hD [0, 1] (by decide) rfl) hS _ (lv_sub hl [0, 1, 2, 3, 4, 5, 6, 7, 8] rfl)
  | succ rmj ihj =>
    intro j hij H locs hP hD hS ls hl
    refine lv_iload hx hb dL_law_712 (lv_at hl 9 rfl) ?_
    refine lv_iload hx hb dL_law_714 (lv_at hl 7 rfl) ?_
    refine gN_ge (tgt := 825) hx hb dL_law_716 (by decide) (by omega) (by omega) (fun c23 => absurd c23 (by omega)) (fun c23 => ?_)
    have hjn : j < nt := by omega
    have hjz : j < zm.2.1 2 := by omega
    have e10 : 10 + j - 10 = j := by omega
    refine lv_aload_n hx hb dL_law_719 rfl (lv_at hl 1 rfl) ?_
    refine lv_bipush (v := nI 10) hx hb dL_law_720 (by decide) ?_
    refine lv_iload hx hb dL_law_722 (lv_at hl 9 rfl) ?_
    refine lv_iadd hx hb dL_law_724 ?_
    refine gTop (y := (nI (10 + j))) (nI_add _ _) ?_
    refine lv_iconst (v := nI 1) hx hb dL_law_725 (by decide) ?_
    refine gCVJ (ci := 9) (q0 := 0) (C := RX6) (As := [.int (nI (10 + j)), .int (nI 1)]) (rest := []) hE (k_ofTable1 l G am zm (10 + j) hIm (by omega) (by omega)) (cwV 2 hts gL_law_X6_ofTable rfl rfl rfl (by decide +kernel) ⟨Nat.le_of_ble_eq_true rfl, Nat.le_of_ble_eq_true rfl⟩) ⟨hx, hb, hml, hown, hts⟩ hK hP hD hS hA (gJ1 [(ci, .inl (G.2.2.1 0, 4, .inl (nA C))), (pe, .inl (G.2.2.1 1, 8, .inr (.inr (.inr (.inr pf)))))]  (dW G am zm) (dW G ab zb ++ (tlW G to tn tn tq tN tf ++ (va_pl LP (iF G D))))) rfl rfl rfl hl rfl (Nat.le_of_ble_eq_true rfl) dL_law_726 ⟨Nat.le_trans (show c + 0 ≤ 500000 by omega) hR.1, Nat.le_trans (show t + 0 ≤ 6000000 by omega) hR.2⟩ (fun u9 H locs hu hP hD hS => ?_)
    have hP : va_P (gD G) vwCl ([(ci, .inl (G.2.2.1 0, 4, .inl (nA C))), (pe, .inl (G.2.2.1 1, 8, .inr (.inr (.inr (.inr pf)))))] ++ (dW G am zm ++ (dW G ab zb ++ (tlW G to tn tn tq tN tf ++ (va_pl LP (iF G D)))))) H := hP
    have hD : va_D A ([(ci, .inl (G.2.2.1 0, 4, .inl (nA C))), (pe, .inl (G.2.2.1 1, 8, .inr (.inr (.inr (.inr pf)))))] ++ (dW G am zm ++ (dW G ab zb ++ (tlW G to tn tn tq tN tf ++ (va_pl LP (iF G D)))))) := hD
    refine W.widen (k := c) (n := t) (by show c + 0 ≤ c; omega) (by show t + 0 ≤ t; omega) ?_
    refine W.eq (g2 := F0 m9 729 ls [.int (nI (((zm.2.1 3).testBit (10 + j - 10)).toNat))]) rfl ?_
    by_cases hb9 : (zm.2.1 3).testBit (10 + j - 10) = true
    · refine gTop (y := nI 1) (by rw [hb9]; rfl) ?_
      refine lv_iconst (v := nI 1) hx hb dL_law_729 (by decide) ?_
      refine gN_ne (tgt := 737) hx hb dL_law_730 (by decide) (by decide) (by decide) (fun c25 => absurd c25 (by omega)) (fun c25 => ?_)
      refine lv_iconst (v := nI 0) hx hb dL_law_733 (by decide) ?_
      refine lv_goto (tgt := 747) hx hb dL_law_734 (by decide) ?_
      refine lv_istore (lv' := [(13, .int (nI 0)), (0, .ref (G.2.2.2 259)), (1, .ref (am 0)), (2, .ref (ab 0)), (3, .ref ci), (4, .ref to), (5, .ref pe), (6, .int (nI np)), (7, .int (nI nt)), (8, .int (nI n)), (12, .int (nI j))]) hx hb dL_law_747 hl (by decide) rfl (fun ls hl => ?_)
      refine lw_tab1 hX zm zb C tn tq tN tf LP D pf np nt n c t j 0 hn hc ht hI hjn (by decide) (fun i9 k9 _ _ z9 => by rw [Nat.zero_testBit] at z9; cases z9) (fun H locs hP hD hS ls hl => ?_) _ _ (gtP hP [0, 1] rfl) (gtD hD [0, 1] (by decide) rfl) hS _ (lv_sub hl [1, 2, 3, 4, 5, 6, 7, 8, 9, 10, 0] rfl)
      refine lv_iinc (lv' := [(12, .int (nI (j + 1))), (0, .ref (G.2.2.2 259)), (1, .ref (am 0)), (2, .ref (ab 0)), (3, .ref ci), (4, .ref to), (5, .ref pe), (6, .int (nI np)), (7, .int (nI nt)), (8, .int (nI n))]) hx hb dL_law_819 hl (k := 9) rfl (n_inc _) (by decide) rfl (fun ls hl => ?_)
      refine lv_goto (tgt := 712) hx hb dL_law_822 (by decide) ?_
      exact ihj (j + 1)  (by omega)  _ _ (gtP hP [0, 1] rfl) (gtD hD [0, 1] (by decide) rfl) hS _ (lv_sub hl [1, 2, 3, 4, 5, 6, 7, 8, 9, 0] rfl)
    · refine gTop (y := nI 0) (by rw [Bool.eq_false_iff.mpr hb9]; rfl) ?_
      refine lv_iconst (v := nI 1) hx hb dL_law_729 (by decide) ?_
      refine gN_ne (tgt := 737) hx hb dL_law_730 (by decide) (by decide) (by decide) (fun c26 => ?_) (fun c26 => absurd c26 (by omega))
      refine lv_aload_n hx hb dL_law_737 rfl (lv_at hl 1 rfl) ?_
      refine lv_bipush (v := nI 10) hx hb dL_law_738 (by decide) ?_
      refine lv_iload hx hb dL_law_740 (lv_at hl 9 rfl) ?_
      refine lv_iadd hx hb dL_law_742 ?_
      refine gTop (y := (nI (10 + j))) (nI_add _ _) ?_
      refine lv_iconst (v := nI 0) hx hb dL_law_743 (by decide) ?_
      refine gCVJ (ci := 9) (q0 := 0) (C := RX6) (As := [.int (nI (10 + j)), .int (nI 0)]) (rest := []) hE (k_ofTable0 l G am zm (10 + j) hIm (by omega) (by omega)) (cwV 2 hts gL_law_X6_ofTable rfl rfl rfl (by decide +kernel) ⟨Nat.le_of_ble_eq_true rfl, Nat.le_of_ble_eq_true rfl⟩) ⟨hx, hb, hml, hown, hts⟩ hK hP hD hS hA (gJ1 [(ci, .inl (G.2.2.1 0, 4, .inl (nA C))), (pe, .inl (G.2.2.1 1, 8, .inr (.inr (.inr (.inr pf)))))]  (dW G am zm) (dW G ab zb ++ (tlW G to tn tn tq tN tf ++ (va_pl LP (iF G D))))) rfl rfl rfl hl rfl (Nat.le_of_ble_eq_true rfl) dL_law_744 ⟨Nat.le_trans (show c + 0 ≤ 500000 by omega) hR.1, Nat.le_trans (show t + 0 ≤ 6000000 by omega) hR.2⟩ (fun u9 H locs hu hP hD hS => ?_)
      have hP : va_P (gD G) vwCl ([(ci, .inl (G.2.2.1 0, 4, .inl (nA C))), (pe, .inl (G.2.2.1 1, 8, .inr (.inr (.inr (.inr pf)))))] ++ (dW G am zm ++ (dW G ab zb ++ (tlW G to tn tn tq tN tf ++ (va_pl LP (iF G D)))))) H := hP
      have hD : va_D A ([(ci, .inl (G.2.2.1 0, 4, .inl (nA C))), (pe, .inl (G.2.2.1 1, 8, .inr (.inr (.inr (.inr pf)))))] ++ (dW G am zm ++ (dW G ab zb ++ (tlW G to tn tn tq tN tf ++ (va_pl LP (iF G D)))))) := hD
      refine W.widen (k := c) (n := t) (by show c + 0 ≤ c; omega) (by show t + 0 ≤ t; omega) ?_
      refine W.eq (g2 := F0 m9 747 ls [.int (nI (zm.1 2 (10 + j - 10)))]) rfl ?_
      refine lv_istore (lv' := [(13, .int (nI (zm.1 2 (10 + j - 10)))), (0, .ref (G.2.2.2 259)), (1, .ref (am 0)), (2, .ref (ab 0)), (3, .ref ci), (4, .ref to), (5, .ref pe), (6, .int (nI np)), (7, .int (nI nt)), (8, .int (nI n)), (12, .int (nI j))]) hx hb dL_law_747 hl (by decide) rfl (fun ls hl => ?_)
      refine lw_tab1 hX zm zb C tn tq tN tf LP D pf np nt n c t j (zm.1 2 (10 + j - 10)) hn hc ht hI hjn (htb.2.1 (10 + j - 10) (by omega)) (fun i9 k9 h1 h2 h3 h4 => tabI_no htb (by omega) (by rw [Bool.eq_false_iff.mpr hb9]) h1 h2 h3 h4) (fun H locs hP hD hS ls hl => ?_) _ _ (gtP hP [0, 1] rfl) (gtD hD [0, 1] (by decide) rfl) hS _ (lv_sub hl [1, 2, 3, 4, 5, 6, 7, 8, 9, 10, 0] rfl)
      refine lv_iinc (lv' := [(12, .int (nI (j + 1))), (0, .ref (G.2.2.2 259)), (1, .ref (am 0)), (2, .ref (ab 0)), (3, .ref ci), (4, .ref to), (5, .ref pe), (6, .int (nI np)), (7, .int (nI nt)), (8, .int (nI n))]) hx hb dL_law_819 hl (k := 9) rfl (n_inc _) (by decide) rfl (fun ls hl => ?_)
      refine lv_goto (tgt := 712) hx hb dL_law_822 (by decide) ?_
      exact ihj (j + 1)  (by omega)  _ _ (gtP hP [0, 1] rfl) (gtD hD [0, 1] (by decide) rfl) hS _ (lv_sub hl [1, 2, 3, 4, 5, 6, 7, 8, 9, 0] rfl)
