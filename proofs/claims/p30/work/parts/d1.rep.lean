set_option maxHeartbeats 8000000 in
set_option maxRecDepth 100000 in
/-- the check: the repair -/
theorem lw_rep {P9 : Program} {l : Launch} {e9 : Env} {s : State} {m9 : MethodId} {args : Array Value} {below : List Frame} {meth : Method} {c9 : Code} {Q : State → Prop} {G : gG} {A : Nat → Prop} {am ab : Nat → Nat} {ci pe to : Nat} (hX : lX P9 s m9 c9 args G A) (n c t : Nat) (hn : n < 48) (hc : c ≤ 490000) (ht : t ≤ 5900000) (K : HD P9 l e9 s m9 args below meth c9 Q G A am ab ci pe to 930 (n + 1) n (c + 300) (t + 2000)) : HD P9 l e9 s m9 args below meth c9 Q G A am ab ci pe to 825 (n + 1) n c t := by
  obtain ⟨hx, hb, hml, hown, hts, hK, hA, hE, hR⟩ := id hX
  intro zm zb C tn tq tN tf LP D pf np nt hI H locs hP hD hS ls hl
  obtain ⟨⟨hIm, hIb, hfc⟩, hC, ⟨htn, htN, htl⟩, hpp, hnp, hnt⟩ := id hI
  have hnp8 : np ≤ 8 := hnp ▸ hIm.1.2.2.1
  have hnt10 : nt ≤ 10 := hnt ▸ hIm.1.2.1.1.1
  refine lv_aload_n hx hb dL_law_825 rfl (lv_at hl 1 rfl) ?_
  refine lv_bipush (v := nI 6) hx hb dL_law_826 (by decide) ?_
  refine gCVJ (ci := 9) (q0 := 0) (C := RX6) (As := [.int (nI 6)]) (rest := []) hE (k_house6 l G am zm hIm) (cwV 1 hts gL_law_X6_house rfl rfl rfl (by decide +kernel) ⟨Nat.le_of_ble_eq_true rfl, Nat.le_of_ble_eq_true rfl⟩) ⟨hx, hb, hml, hown, hts⟩ hK hP hD hS hA (gJ1 [(ci, .inl (G.2.2.1 0, 4, .inl (nA C))), (pe, .inl (G.2.2.1 1, 8, .inr (.inr (.inr (.inr pf)))))]  (dW G am zm) (dW G ab zb ++ (tlW G to tn tn tq tN tf ++ (va_pl LP (iF G D))))) rfl rfl rfl hl rfl (Nat.le_of_ble_eq_true rfl) dL_law_828 ⟨Nat.le_trans (show c + 0 ≤ 500000 by omega) hR.1, Nat.le_trans (show t + 0 ≤ 6000000 by omega) hR.2⟩ (fun u9 H locs hu hP hD hS => ?_)
  have hP : va_P (gD G) vwCl ([(ci, .inl (G.2.2.1 0, 4, .inl (nA C))), (pe, .inl (G.2.2.1 1, 8, .inr (.inr (.inr (.inr pf)))))] ++ (dW G am zm ++ (dW G ab zb ++ (tlW G to tn tn tq tN tf ++ (va_pl LP (iF G D)))))) H := hP
  have hD : va_D A ([(ci, .inl (G.2.2.1 0, 4, .inl (nA C))), (pe, .inl (G.2.2.1 1, 8, .inr (.inr (.inr (.inr pf)))))] ++ (dW G am zm ++ (dW G ab zb ++ (tlW G to tn tn tq tN tf ++ (va_pl LP (iF G D)))))) := hD
  refine W.widen (k := c) (n := t) (by show c + 0 ≤ c; omega) (by show t + 0 ≤ t; omega) ?_
  refine W.eq (g2 := F0 m9 831 ls [.int (nI (zm.2.1 5))]) rfl ?_
  refine lv_istore (lv' := [(12, .int (nI (zm.2.1 5))), (0, .ref (G.2.2.2 259)), (1, .ref (am 0)), (2, .ref (ab 0)), (3, .ref ci), (4, .ref to), (5, .ref pe), (6, .int (nI np)), (7, .int (nI nt)), (8, .int (nI n))]) hx hb dL_law_831 hl (by decide) rfl (fun ls hl => ?_)
  refine lv_bipush (v := nI 6) hx hb dL_law_833 (by decide) ?_
  refine gN_newa (n := 6) hx hb (hts (.arrayClass .int) (by decide +kernel)) hK hP hD hS hA (by decide) (by decide) (Nat.le_trans (show c + 1 ≤ 500000 by omega) hR.1) (Nat.le_trans (show t + 6 ≤ 6000000 by omega) hR.2) dL_law_835 (fun q22 H hP hD hS => ?_)
  have hP := va_P.swap hP
  have hD := va_D.swap hD
  have hP : va_P (gD G) vwCl ([(ci, .inl (G.2.2.1 0, 4, .inl (nA C))), (pe, .inl (G.2.2.1 1, 8, .inr (.inr (.inr (.inr pf))))), (q22, .inl (G.2.2.1 0, 6, .inl (nA (fun _ => 0))))] ++ (dW G am zm ++ (dW G ab zb ++ (tlW G to tn tn tq tN tf ++ (va_pl LP (iF G D)))))) H := hP
  have hD : va_D A ([(ci, .inl (G.2.2.1 0, 4, .inl (nA C))), (pe, .inl (G.2.2.1 1, 8, .inr (.inr (.inr (.inr pf))))), (q22, .inl (G.2.2.1 0, 6, .inl (nA (fun _ => 0))))] ++ (dW G am zm ++ (dW G ab zb ++ (tlW G to tn tn tq tN tf ++ (va_pl LP (iF G D)))))) := hD
  refine W.widen (k := (c + 1)) (n := (t + 6)) (by show c + 1 ≤ (c + 1); omega) (by show t + 6 ≤ (t + 6); omega) ?_
  refine lv_astore (lv' := [(13, .ref q22), (12, .int (nI (zm.2.1 5))), (0, .ref (G.2.2.2 259)), (1, .ref (am 0)), (2, .ref (ab 0)), (3, .ref ci), (4, .ref to), (5, .ref pe), (6, .int (nI np)), (7, .int (nI nt)), (8, .int (nI n))]) hx hb dL_law_837 hl (by decide) rfl (fun ls hl => ?_)
  refine lv_iconst (v := nI 0) hx hb dL_law_839 (by decide) ?_
  refine lv_istore (lv' := [(14, .int (nI 0)), (13, .ref q22), (12, .int (nI (zm.2.1 5))), (0, .ref (G.2.2.2 259)), (1, .ref (am 0)), (2, .ref (ab 0)), (3, .ref ci), (4, .ref to), (5, .ref pe), (6, .int (nI np)), (7, .int (nI nt)), (8, .int (nI n))]) hx hb dL_law_840 hl (by decide) rfl (fun ls hl => ?_)
  suffices L23 : ∀ (rmk k : Nat) (NF : Nat → Nat), k + rmk = 6 → (∀ i, i < k → NF i = zm.1 1 i) → ∀ (H : Heap) (locs : List Loc), va_P (gD G) vwCl ([(ci, .inl (G.2.2.1 0, 4, .inl (nA C))), (pe, .inl (G.2.2.1 1, 8, .inr (.inr (.inr (.inr pf))))), (q22, .inl (G.2.2.1 0, 6, .inl (nA NF)))] ++ (dW G am zm ++ (dW G ab zb ++ (tlW G to tn tn tq tN tf ++ (va_pl LP (iF G D)))))) H → va_D A ([(ci, .inl (G.2.2.1 0, 4, .inl (nA C))), (pe, .inl (G.2.2.1 1, 8, .inr (.inr (.inr (.inr pf))))), (q22, .inl (G.2.2.1 0, 6, .inl (nA NF)))] ++ (dW G am zm ++ (dW G ab zb ++ (tlW G to tn tn tq tN tf ++ (va_pl LP (iF G D)))))) → va_S A s.heap H locs → ∀ ls : Array Slot, lv_has ls 16 [(0, .ref (G.2.2.2 259)), (1, .ref (am 0)), (2, .ref (ab 0)), (3, .ref ci), (4, .ref to), (5, .ref pe), (6, .int (nI np)), (7, .int (nI nt)), (8, .int (nI n)), (12, .int (nI (zm.2.1 5))), (13, .ref q22), (14, .int (nI k))] → W P9 l e9 room_1 s m9 args below meth c9 H locs (c + 1) (t + 6) Q (F0 m9 842 ls []) by
    exact L23 _ 0 (fun _ => 0) (Nat.add_sub_cancel' (by omega)) (fun i9 h9 => absurd h9 (Nat.not_lt_zero i9)) _ _ (gtP hP [0, 1, 2] rfl) (gtD hD [0, 1, 2] (by decide) rfl) hS _ (lv_sub hl [3, 4, 5, 6, 7, 8, 9, 10, 11, 2, 1, 0] rfl)
  intro rmk
  induction rmk with
  | zero =>
    intro k NF hik hNF H locs hP hD hS ls hl
    refine lv_iload hx hb dL_law_842 (lv_at hl 11 rfl) ?_
    refine lv_bipush (v := nI 6) hx hb dL_law_844 (by decide) ?_
    refine gN_ge (tgt := 867) hx hb dL_law_846 (by decide) (by omega) (by decide) (fun c24 => ?_) (fun c24 => absurd c24 (by omega))
    have hNF6 : ∀ i, i < 6 → NF i = zm.1 1 i := fun i9 h9 => hNF i9 (by omega)
    obtain ⟨pa, hpa⟩ := ch_fn hpp
    have heds : eds (zm.1 3) (zm.1 4) (fun k => D (pa k) 0) (fun k => D (pa k) 1) np := fun k9 h9 => (hpa k9 h9).2.2
    have hrp : isRep (zm.1 3) (zm.1 4) np (zm.1 1) 6 (zm.2.1 5) := by rw [hnp]; exact hIm.1.2.2.2.2.2
    have hp0 : 0 < 2 ^ np := Nat.pow_pos (by decide)
    have hrp1 : (zm.2.1 5) ≤ 2 ^ np - 1 := hrp.1
    have hp256 : 2 ^ np ≤ 256 := pow2_le8 np hnp8
    have hg128 : ∀ k, k < 6 → NF k < 128 := fun k9 h9 => by rw [hNF6 k9 h9]; exact kinI_m7 hIm.1.1 k9 (by omega)
    have hg0 := kinI_own hIm.1.1
    have hgs := kinI_sym hIm.1.1
    refine lv_aload hx hb dL_law_867 (lv_at hl 10 rfl) ?_
    refine lv_aload hx hb dL_law_869 (lv_at hl 5 rfl) ?_
    refine lv_iload hx hb dL_law_871 (lv_at hl 6 rfl) ?_
    refine lv_iload hx hb dL_law_873 (lv_at hl 9 rfl) ?_
    refine gCSJ (As := [.ref q22, .ref pe, .int (nI np), .int (nI (zm.2.1 5))]) (rest := []) hE (c_isShut l G q22 pe LP D NF pf pa np (zm.2.1 5) (by omega) (by omega) hg128 (fun k9 h9 => (hpa k9 h9).1) (fun k9 h9 => (hpa k9 h9).2.1) (fun k9 h9 => ⟨(hpa k9 h9).2.2.1, (hpa k9 h9).2.2.2.1⟩)) (va_cwS 4 hts gL_law_L_isShut rfl rfl rfl (by decide +kernel) ⟨Nat.le_of_ble_eq_true rfl, Nat.le_of_ble_eq_true rfl⟩) ⟨hx, hb, hml, hown, hts⟩ hK hP hD hS hA (gJnG (wr := [(ci, .inl (G.2.2.1 0, 4, .inl (nA C)))] ++ (dW G am zm ++ (dW G ab zb ++ (tlW G to tn tn tq tN tf)))) (out := fun w => ([(ci, .inl (G.2.2.1 0, 4, .inl (nA C)))] ++ (dW G am zm ++ (dW G ab zb ++ (tlW G to tn tn tq tN tf)))) ++ w) (permC fun _ a => by simp only [List.count_append, List.count_cons, List.count_nil]; ac_rfl) (fun w => List.Perm.refl _)) rfl hl rfl (Nat.le_of_ble_eq_true rfl) dL_law_875 ⟨Nat.le_trans (show (c + 1) + 1 ≤ 500000 by omega) hR.1, Nat.le_trans (show (t + 6) + 6 ≤ 6000000 by omega) hR.2⟩ (fun u9 H locs hu hP hD hS => ?_)
    obtain ⟨u25, Wt25⟩ := u9
    have hp9 : List.Perm ((([(ci, .inl (G.2.2.1 0, 4, .inl (nA C)))] ++ (dW G am zm ++ (dW G ab zb ++ (tlW G to tn tn tq tN tf)))) ++ ([(q22, .inl (G.2.2.1 0, 6, .inl (nA NF))), (pe, .inl (G.2.2.1 1, 8, .inr (.inr (.inr (.inr pf)))))] ++ (va_pl LP (iF G D)))) : va_W) (([(ci, .inl (G.2.2.1 0, 4, .inl (nA C))), (pe, .inl (G.2.2.1 1, 8, .inr (.inr (.inr (.inr pf))))), (q22, .inl (G.2.2.1 0, 6, .inl (nA NF)))] ++ (dW G am zm ++ (dW G ab zb ++ (tlW G to tn tn tq tN tf ++ (va_pl LP (iF G D)))))) : va_W) := permC fun _ a => by simp only [List.count_append, List.count_cons, List.count_nil]; ac_rfl
    have hP := vaP_perm hp9 hP
    have hD := vaD_perm hp9 hD
    obtain ⟨⟨hPW25, hdn25⟩, hor25⟩ := hu
    have hP : va_P (gD G) vwCl ([(ci, .inl (G.2.2.1 0, 4, .inl (nA C))), (pe, .inl (G.2.2.1 1, 8, .inr (.inr (.inr (.inr pf))))), (q22, .inl (G.2.2.1 0, 6, .inl (nA NF)))] ++ (dW G am zm ++ (dW G ab zb ++ (tlW G to tn tn tq tN tf ++ (va_pl LP (iF G D)))))) H := hP
    have hD : va_D A ([(ci, .inl (G.2.2.1 0, 4, .inl (nA C))), (pe, .inl (G.2.2.1 1, 8, .inr (.inr (.inr (.inr pf))))), (q22, .inl (G.2.2.1 0, 6, .inl (nA NF)))] ++ (dW G am zm ++ (dW G ab zb ++ (tlW G to tn tn tq tN tf ++ (va_pl LP (iF G D)))))) := hD
    refine W.widen (k := (c + 2)) (n := (t + 12)) (by show (c + 1) + 1 ≤ (c + 2); omega) (by show (t + 6) + 6 ≤ (t + 12); omega) ?_
    refine W.eq (g2 := F0 m9 878 ls [.int (nI u25)]) rfl ?_
    have hu1 : u25 = 1 := rep_yes heds hrp hg0 hgs hNF6 hPW25 hdn25 hor25
    refine gTop (y := nI 1) (congrArg nI hu1) ?_
    refine gN_ne0 (tgt := 883) hx hb dL_law_878 (by decide) (by decide) (fun c26 => ?_) (fun c26 => absurd c26 (by omega))
    refine lv_iconst (v := nI 0) hx hb dL_law_883 (by decide) ?_
    refine lv_istore (lv' := [(14, .int (nI 0)), (0, .ref (G.2.2.2 259)), (1, .ref (am 0)), (2, .ref (ab 0)), (3, .ref ci), (4, .ref to), (5, .ref pe), (6, .int (nI np)), (7, .int (nI nt)), (8, .int (nI n)), (12, .int (nI (zm.2.1 5))), (13, .ref q22)]) hx hb dL_law_884 hl (by decide) rfl (fun ls hl => ?_)
    suffices L27 : ∀ (rmw set : Nat), set + rmw = 2 ^ np → ∀ (H : Heap) (locs : List Loc), va_P (gD G) vwCl ([(ci, .inl (G.2.2.1 0, 4, .inl (nA C))), (pe, .inl (G.2.2.1 1, 8, .inr (.inr (.inr (.inr pf))))), (q22, .inl (G.2.2.1 0, 6, .inl (nA NF)))] ++ (dW G am zm ++ (dW G ab zb ++ (tlW G to tn tn tq tN tf ++ (va_pl LP (iF G D)))))) H → va_D A ([(ci, .inl (G.2.2.1 0, 4, .inl (nA C))), (pe, .inl (G.2.2.1 1, 8, .inr (.inr (.inr (.inr pf))))), (q22, .inl (G.2.2.1 0, 6, .inl (nA NF)))] ++ (dW G am zm ++ (dW G ab zb ++ (tlW G to tn tn tq tN tf ++ (va_pl LP (iF G D)))))) → va_S A s.heap H locs → ∀ ls : Array Slot, lv_has ls 16 [(0, .ref (G.2.2.2 259)), (1, .ref (am 0)), (2, .ref (ab 0)), (3, .ref ci), (4, .ref to), (5, .ref pe), (6, .int (nI np)), (7, .int (nI nt)), (8, .int (nI n)), (12, .int (nI (zm.2.1 5))), (13, .ref q22), (14, .int (nI set))] → W P9 l e9 room_1 s m9 args below meth c9 H locs ((c + set) + 2) ((t + set * 6) + 12) Q (F0 m9 886 ls []) by
      refine W.widen (k := ((c + 0) + 2)) (n := ((t + 0 * 6) + 12)) (by omega) (by omega) ?_
      exact L27 _ 0  (Nat.add_sub_cancel' (by omega))  _ _ (gtP hP [0, 1, 2] rfl) (gtD hD [0, 1, 2] (by decide) rfl) hS _ (lv_sub hl [1, 2, 3, 4, 5, 6, 7, 8, 9, 10, 11, 0] rfl)
    intro rmw
    induction rmw with
    | zero =>
      intro set hiw H locs hP hD hS ls hl
      refine lv_iload hx hb dL_law_886 (lv_at hl 11 rfl) ?_
      refine lv_iconst (v := nI 1) hx hb dL_law_888 (by decide) ?_
      refine lv_iload hx hb dL_law_889 (lv_at hl 6 rfl) ?_
      refine lv_ishl hx hb dL_law_891 ?_
      refine gTop (y := (nI (2 ^ np))) (n_one_shl (by omega)) ?_
      refine gN_ge (tgt := 930) hx hb dL_law_892 (by decide) (by omega) (by omega) (fun c28 => ?_) (fun c28 => absurd c28 (by omega))
      refine W.widen (k := (c + 300)) (n := (t + 2000)) (by omega) (by omega) ?_
      exact K zm zb C tn tq tN tf LP D pf np nt hI _ _ (gtP hP [0, 1] rfl) (gtD hD [0, 1] (by decide) rfl) hS _ (lv_sub hl [0, 1, 2, 3, 4, 5, 6, 7, 8] rfl)
    | succ rmw ihw =>
      intro set hiw H locs hP hD hS ls hl
      refine lv_iload hx hb dL_law_886 (lv_at hl 11 rfl) ?_
      refine lv_iconst (v := nI 1) hx hb dL_law_888 (by decide) ?_
      refine lv_iload hx hb dL_law_889 (lv_at hl 6 rfl) ?_
      refine lv_ishl hx hb dL_law_891 ?_
      refine gTop (y := (nI (2 ^ np))) (n_one_shl (by omega)) ?_
      refine gN_ge (tgt := 930) hx hb dL_law_892 (by decide) (by omega) (by omega) (fun c29 => absurd c29 (by omega)) (fun c29 => ?_)
      refine lv_iload hx hb dL_law_895 (lv_at hl 11 rfl) ?_
      refine gCSJ (As := [.int (nI set)]) (rest := []) hE (c_bitCount l G set (by omega)) (va_cwS 1 hts gL_law_J6_bitCount_0f7a4 rfl rfl rfl (by decide +kernel) ⟨Nat.le_of_ble_eq_true rfl, Nat.le_of_ble_eq_true rfl⟩) ⟨hx, hb, hml, hown, hts⟩ hK hP hD hS hA (gJz ([(ci, .inl (G.2.2.1 0, 4, .inl (nA C))), (pe, .inl (G.2.2.1 1, 8, .inr (.inr (.inr (.inr pf))))), (q22, .inl (G.2.2.1 0, 6, .inl (nA NF)))] ++ (dW G am zm ++ (dW G ab zb ++ (tlW G to tn tn tq tN tf ++ (va_pl LP (iF G D))))))) rfl hl rfl (Nat.le_of_ble_eq_true rfl) dL_law_897 ⟨Nat.le_trans (show ((c + set) + 2) + 0 ≤ 500000 by omega) hR.1, Nat.le_trans (show ((t + set * 6) + 12) + 0 ≤ 6000000 by omega) hR.2⟩ (fun u9 H locs hu hP hD hS => ?_)
      have hP : va_P (gD G) vwCl ([(ci, .inl (G.2.2.1 0, 4, .inl (nA C))), (pe, .inl (G.2.2.1 1, 8, .inr (.inr (.inr (.inr pf))))), (q22, .inl (G.2.2.1 0, 6, .inl (nA NF)))] ++ (dW G am zm ++ (dW G ab zb ++ (tlW G to tn tn tq tN tf ++ (va_pl LP (iF G D)))))) H := hP
      have hD : va_D A ([(ci, .inl (G.2.2.1 0, 4, .inl (nA C))), (pe, .inl (G.2.2.1 1, 8, .inr (.inr (.inr (.inr pf))))), (q22, .inl (G.2.2.1 0, 6, .inl (nA NF)))] ++ (dW G am zm ++ (dW G ab zb ++ (tlW G to tn tn tq tN tf ++ (va_pl LP (iF G D)))))) := hD
      refine W.widen (k := ((c + set) + 2)) (n := ((t + set * 6) + 12)) (by show ((c + set) + 2) + 0 ≤ ((c + set) + 2); omega) (by show ((t + set * 6) + 12) + 0 ≤ ((t + set * 6) + 12); omega) ?_
      refine W.eq (g2 := F0 m9 900 ls [.int (nI (popc set))]) rfl ?_
      refine lv_iload hx hb dL_law_900 (lv_at hl 9 rfl) ?_
      refine gCSJ (As := [.int (nI (zm.2.1 5))]) (rest := [.int (nI (popc set))]) hE (c_bitCount l G (zm.2.1 5) (by omega)) (va_cwS 1 hts gL_law_J6_bitCount_0f7a4 rfl rfl rfl (by decide +kernel) ⟨Nat.le_of_ble_eq_true rfl, Nat.le_of_ble_eq_true rfl⟩) ⟨hx, hb, hml, hown, hts⟩ hK hP hD hS hA (gJz ([(ci, .inl (G.2.2.1 0, 4, .inl (nA C))), (pe, .inl (G.2.2.1 1, 8, .inr (.inr (.inr (.inr pf))))), (q22, .inl (G.2.2.1 0, 6, .inl (nA NF)))] ++ (dW G am zm ++ (dW G ab zb ++ (tlW G to tn tn tq tN tf ++ (va_pl LP (iF G D))))))) rfl hl rfl (Nat.le_of_ble_eq_true rfl) dL_law_902 ⟨Nat.le_trans (show ((c + set) + 2) + 0 ≤ 500000 by omega) hR.1, Nat.le_trans (show ((t + set * 6) + 12) + 0 ≤ 6000000 by omega) hR.2⟩ (fun u9 H locs hu hP hD hS => ?_)
      have hP : va_P (gD G) vwCl ([(ci, .inl (G.2.2.1 0, 4, .inl (nA C))), (pe, .inl (G.2.2.1 1, 8, .inr (.inr (.inr (.inr pf))))), (q22, .inl (G.2.2.1 0, 6, .inl (nA NF)))] ++ (dW G am zm ++ (dW G ab zb ++ (tlW G to tn tn tq tN tf ++ (va_pl LP (iF G D)))))) H := hP
      have hD : va_D A ([(ci, .inl (G.2.2.1 0, 4, .inl (nA C))), (pe, .inl (G.2.2.1 1, 8, .inr (.inr (.inr (.inr pf))))), (q22, .inl (G.2.2.1 0, 6, .inl (nA NF)))] ++ (dW G am zm ++ (dW G ab zb ++ (tlW G to tn tn tq tN tf ++ (va_pl LP (iF G D)))))) := hD
      refine W.widen (k := ((c + set) + 2)) (n := ((t + set * 6) + 12)) (by show ((c + set) + 2) + 0 ≤ ((c + set) + 2); omega) (by show ((t + set * 6) + 12) + 0 ≤ ((t + set * 6) + 12); omega) ?_
      refine W.eq (g2 := F0 m9 905 ls [.int (nI (popc (zm.2.1 5))), .int (nI (popc set))]) rfl ?_
      have hpc1 := popc_le10 set
      have hpc2 := popc_le10 (zm.2.1 5)
      refine gN_ge (tgt := 924) hx hb dL_law_905 (by decide) (by omega) (by omega) (fun c30 => ?_) (fun c30 => ?_)
      · refine lv_iinc (lv' := [(14, .int (nI (set + 1))), (0, .ref (G.2.2.2 259)), (1, .ref (am 0)), (2, .ref (ab 0)), (3, .ref ci), (4, .ref to), (5, .ref pe), (6, .int (nI np)), (7, .int (nI nt)), (8, .int (nI n)), (12, .int (nI (zm.2.1 5))), (13, .ref q22)]) hx hb dL_law_924 hl (k := 11) rfl (n_inc _) (by decide) rfl (fun ls hl => ?_)
        refine lv_goto (tgt := 886) hx hb dL_law_927 (by decide) ?_
        refine W.widen (k := ((c + (set + 1)) + 2)) (n := ((t + (set + 1) * 6) + 12)) (by omega) (by omega) ?_
        exact ihw (set + 1)  (by omega)  _ _ (gtP hP [0, 1, 2] rfl) (gtD hD [0, 1, 2] (by decide) rfl) hS _ (lv_sub hl [1, 2, 3, 4, 5, 6, 7, 8, 9, 10, 11, 0] rfl)
      · refine lv_aload hx hb dL_law_908 (lv_at hl 10 rfl) ?_
        refine lv_aload hx hb dL_law_910 (lv_at hl 5 rfl) ?_
        refine lv_iload hx hb dL_law_912 (lv_at hl 6 rfl) ?_
        refine lv_iload hx hb dL_law_914 (lv_at hl 11 rfl) ?_
        refine gCSJ (As := [.ref q22, .ref pe, .int (nI np), .int (nI set)]) (rest := []) hE (c_isShut l G q22 pe LP D NF pf pa np set (by omega) (by omega) hg128 (fun k9 h9 => (hpa k9 h9).1) (fun k9 h9 => (hpa k9 h9).2.1) (fun k9 h9 => ⟨(hpa k9 h9).2.2.1, (hpa k9 h9).2.2.2.1⟩)) (va_cwS 4 hts gL_law_L_isShut rfl rfl rfl (by decide +kernel) ⟨Nat.le_of_ble_eq_true rfl, Nat.le_of_ble_eq_true rfl⟩) ⟨hx, hb, hml, hown, hts⟩ hK hP hD hS hA (gJnG (wr := [(ci, .inl (G.2.2.1 0, 4, .inl (nA C)))] ++ (dW G am zm ++ (dW G ab zb ++ (tlW G to tn tn tq tN tf)))) (out := fun w => ([(ci, .inl (G.2.2.1 0, 4, .inl (nA C)))] ++ (dW G am zm ++ (dW G ab zb ++ (tlW G to tn tn tq tN tf)))) ++ w) (permC fun _ a => by simp only [List.count_append, List.count_cons, List.count_nil]; ac_rfl) (fun w => List.Perm.refl _)) rfl hl rfl (Nat.le_of_ble_eq_true rfl) dL_law_916 ⟨Nat.le_trans (show ((c + set) + 2) + 1 ≤ 500000 by omega) hR.1, Nat.le_trans (show ((t + set * 6) + 12) + 6 ≤ 6000000 by omega) hR.2⟩ (fun u9 H locs hu hP hD hS => ?_)
        obtain ⟨u31, Wt31⟩ := u9
        have hp9 : List.Perm ((([(ci, .inl (G.2.2.1 0, 4, .inl (nA C)))] ++ (dW G am zm ++ (dW G ab zb ++ (tlW G to tn tn tq tN tf)))) ++ ([(q22, .inl (G.2.2.1 0, 6, .inl (nA NF))), (pe, .inl (G.2.2.1 1, 8, .inr (.inr (.inr (.inr pf)))))] ++ (va_pl LP (iF G D)))) : va_W) (([(ci, .inl (G.2.2.1 0, 4, .inl (nA C))), (pe, .inl (G.2.2.1 1, 8, .inr (.inr (.inr (.inr pf))))), (q22, .inl (G.2.2.1 0, 6, .inl (nA NF)))] ++ (dW G am zm ++ (dW G ab zb ++ (tlW G to tn tn tq tN tf ++ (va_pl LP (iF G D)))))) : va_W) := permC fun _ a => by simp only [List.count_append, List.count_cons, List.count_nil]; ac_rfl
        have hP := vaP_perm hp9 hP
        have hD := vaD_perm hp9 hD
        obtain ⟨⟨hPW31, hdn31⟩, hor31⟩ := hu
        have hP : va_P (gD G) vwCl ([(ci, .inl (G.2.2.1 0, 4, .inl (nA C))), (pe, .inl (G.2.2.1 1, 8, .inr (.inr (.inr (.inr pf))))), (q22, .inl (G.2.2.1 0, 6, .inl (nA NF)))] ++ (dW G am zm ++ (dW G ab zb ++ (tlW G to tn tn tq tN tf ++ (va_pl LP (iF G D)))))) H := hP
        have hD : va_D A ([(ci, .inl (G.2.2.1 0, 4, .inl (nA C))), (pe, .inl (G.2.2.1 1, 8, .inr (.inr (.inr (.inr pf))))), (q22, .inl (G.2.2.1 0, 6, .inl (nA NF)))] ++ (dW G am zm ++ (dW G ab zb ++ (tlW G to tn tn tq tN tf ++ (va_pl LP (iF G D)))))) := hD
        refine W.widen (k := ((c + set) + 3)) (n := ((t + set * 6) + 18)) (by show ((c + set) + 2) + 1 ≤ ((c + set) + 3); omega) (by show ((t + set * 6) + 12) + 6 ≤ ((t + set * 6) + 18); omega) ?_
        refine W.eq (g2 := F0 m9 919 ls [.int (nI u31)]) rfl ?_
        have hu0 : u31 = 0 := rep_no (by omega) (by omega) c30 heds hrp hNF6 hPW31 hdn31 hor31
        refine gTop (y := nI 0) (congrArg nI hu0) ?_
        refine gN_eq0 (tgt := 924) hx hb dL_law_919 (by decide) (by decide) (fun c32 => ?_) (fun c32 => absurd c32 (by omega))
        refine lv_iinc (lv' := [(14, .int (nI (set + 1))), (0, .ref (G.2.2.2 259)), (1, .ref (am 0)), (2, .ref (ab 0)), (3, .ref ci), (4, .ref to), (5, .ref pe), (6, .int (nI np)), (7, .int (nI nt)), (8, .int (nI n)), (12, .int (nI (zm.2.1 5))), (13, .ref q22)]) hx hb dL_law_924 hl (k := 11) rfl (n_inc _) (by decide) rfl (fun ls hl => ?_)
        refine lv_goto (tgt := 886) hx hb dL_law_927 (by decide) ?_
        refine W.widen (k := ((c + (set + 1)) + 2)) (n := ((t + (set + 1) * 6) + 12)) (by omega) (by omega) ?_
        exact ihw (set + 1)  (by omega)  _ _ (gtP hP [0, 1, 2] rfl) (gtD hD [0, 1, 2] (by decide) rfl) hS _ (lv_sub hl [1, 2, 3, 4, 5, 6, 7, 8, 9, 10, 11, 0] rfl)
  | succ rmk ihk =>
    intro k NF hik hNF H locs hP hD hS ls hl
    refine lv_iload hx hb dL_law_842 (lv_at hl 11 rfl) ?_
    refine lv_bipush (v := nI 6) hx hb dL_law_844 (by decide) ?_
    refine gN_ge (tgt := 867) hx hb dL_law_846 (by decide) (by omega) (by decide) (fun c33 => absurd c33 (by omega)) (fun c33 => ?_)
    refine lv_aload hx hb dL_law_849 (lv_at hl 10 rfl) ?_
    refine lv_iload hx hb dL_law_851 (lv_at hl 11 rfl) ?_
    refine lv_aload_n hx hb dL_law_853 rfl (lv_at hl 1 rfl) ?_
    refine lv_iload hx hb dL_law_854 (lv_at hl 11 rfl) ?_
    refine lv_iconst (v := nI 1) hx hb dL_law_856 (by decide) ?_
    refine gCVJ (ci := 9) (q0 := 0) (C := RX6) (As := [.int (nI k), .int (nI 1)]) (rest := [.int (nI k), .ref q22]) hE (k_ofSource1 l G am zm k hIm (by omega)) (cwV 2 hts gL_law_X6_ofSource rfl rfl rfl (by decide +kernel) ⟨Nat.le_of_ble_eq_true rfl, Nat.le_of_ble_eq_true rfl⟩) ⟨hx, hb, hml, hown, hts⟩ hK hP hD hS hA (gJ1 [(ci, .inl (G.2.2.1 0, 4, .inl (nA C))), (pe, .inl (G.2.2.1 1, 8, .inr (.inr (.inr (.inr pf))))), (q22, .inl (G.2.2.1 0, 6, .inl (nA NF)))]  (dW G am zm) (dW G ab zb ++ (tlW G to tn tn tq tN tf ++ (va_pl LP (iF G D))))) rfl rfl rfl hl rfl (Nat.le_of_ble_eq_true rfl) dL_law_857 ⟨Nat.le_trans (show (c + 1) + 0 ≤ 500000 by omega) hR.1, Nat.le_trans (show (t + 6) + 0 ≤ 6000000 by omega) hR.2⟩ (fun u9 H locs hu hP hD hS => ?_)
    have hP : va_P (gD G) vwCl ([(ci, .inl (G.2.2.1 0, 4, .inl (nA C))), (pe, .inl (G.2.2.1 1, 8, .inr (.inr (.inr (.inr pf))))), (q22, .inl (G.2.2.1 0, 6, .inl (nA NF)))] ++ (dW G am zm ++ (dW G ab zb ++ (tlW G to tn tn tq tN tf ++ (va_pl LP (iF G D)))))) H := hP
    have hD : va_D A ([(ci, .inl (G.2.2.1 0, 4, .inl (nA C))), (pe, .inl (G.2.2.1 1, 8, .inr (.inr (.inr (.inr pf))))), (q22, .inl (G.2.2.1 0, 6, .inl (nA NF)))] ++ (dW G am zm ++ (dW G ab zb ++ (tlW G to tn tn tq tN tf ++ (va_pl LP (iF G D)))))) := hD
    refine W.widen (k := (c + 1)) (n := (t + 6)) (by show (c + 1) + 0 ≤ (c + 1); omega) (by show (t + 6) + 0 ≤ (t + 6); omega) ?_
    refine W.eq (g2 := F0 m9 860 ls [.int (nI (zm.1 1 k)), .int (nI k), .ref q22]) rfl ?_
    refine gN_iast hx hb hK hP hD hS 2 0 rfl rfl (by omega) (by decide) dL_law_860 (fun H locs hP hD hS => ?_)
    have hP : va_P (gD G) vwCl ([(ci, .inl (G.2.2.1 0, 4, .inl (nA C))), (pe, .inl (G.2.2.1 1, 8, .inr (.inr (.inr (.inr pf))))), (q22, .inl (G.2.2.1 0, 6, .inl (nA (va_up NF k (zm.1 1 k)))))] ++ (dW G am zm ++ (dW G ab zb ++ (tlW G to tn tn tq tN tf ++ (va_pl LP (iF G D)))))) H := hP
    have hD : va_D A ([(ci, .inl (G.2.2.1 0, 4, .inl (nA C))), (pe, .inl (G.2.2.1 1, 8, .inr (.inr (.inr (.inr pf))))), (q22, .inl (G.2.2.1 0, 6, .inl (nA (va_up NF k (zm.1 1 k)))))] ++ (dW G am zm ++ (dW G ab zb ++ (tlW G to tn tn tq tN tf ++ (va_pl LP (iF G D)))))) := hD
    have hNF2 : ∀ i, i < k + 1 → va_up NF k (zm.1 1 k) i = zm.1 1 i := fun i9 h9 => by
      by_cases e9 : i9 = k
      · rw [e9, va_up_self]
      · rw [va_up_ne _ _ e9]; exact hNF i9 (by omega)
    refine lv_iinc (lv' := [(14, .int (nI (k + 1))), (0, .ref (G.2.2.2 259)), (1, .ref (am 0)), (2, .ref (ab 0)), (3, .ref ci), (4, .ref to), (5, .ref pe), (6, .int (nI np)), (7, .int (nI nt)), (8, .int (nI n)), (12, .int (nI (zm.2.1 5))), (13, .ref q22)]) hx hb dL_law_861 hl (k := 11) rfl (n_inc _) (by decide) rfl (fun ls hl => ?_)
    refine lv_goto (tgt := 842) hx hb dL_law_864 (by decide) ?_
    exact ihk (k + 1) (va_up NF k (zm.1 1 k)) (by omega) hNF2 _ _ (gtP hP [0, 1, 2] rfl) (gtD hD [0, 1, 2] (by decide) rfl) hS _ (lv_sub hl [1, 2, 3, 4, 5, 6, 7, 8, 9, 10, 11, 0] rfl)
