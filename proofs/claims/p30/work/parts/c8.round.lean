set_option maxHeartbeats 8000000 in
set_option maxRecDepth 100000 in
/-- a round, up to its switch -/
theorem lw_round {P9 : Program} {l : Launch} {e9 : Env} {s : State} {m9 : MethodId} {args : Array Value} {below : List Frame} {meth : Method} {c9 : Code} {Q : State → Prop} {G : gG} {A : Nat → Prop} {am ab : Nat → Nat} {ci pe to : Nat} (hX : lX P9 s m9 c9 args G A) (n c t : Nat) (hn : n < 48) (hc : c ≤ 490000) (ht : t ≤ 5900000) (K212 : HS P9 l e9 s m9 args below meth c9 Q G A am ab ci pe to 212 n c t) (K263 : HS P9 l e9 s m9 args below meth c9 Q G A am ab ci pe to 263 n c t) (K291 : HS P9 l e9 s m9 args below meth c9 Q G A am ab ci pe to 291 n c t) (K333 : HS P9 l e9 s m9 args below meth c9 Q G A am ab ci pe to 333 n c t) (K395 : HS P9 l e9 s m9 args below meth c9 Q G A am ab ci pe to 395 n c t) (K493 : HS P9 l e9 s m9 args below meth c9 Q G A am ab ci pe to 493 n c t) : HD P9 l e9 s m9 args below meth c9 Q G A am ab ci pe to 130 n n c t := by
  obtain ⟨hx, hb, hml, hown, hts, hK, hA, hE, hR⟩ := id hX
  intro zm zb C tn tq tN tf LP D pf np nt hI H locs hP hD hS ls hl
  refine lv_iload hx hb dL_law_130 (lv_at hl 8 rfl) ?_
  refine lv_bipush (v := nI 48) hx hb dL_law_132 (by decide) ?_
  refine gN_ge (tgt := 936) hx hb dL_law_134 (by decide) (by omega) (by decide) (fun c21 => absurd c21 (by omega)) (fun c21 => ?_)
  refine lv_bipush (v := nI 6) hx hb dL_law_137 (by decide) ?_
  refine lv_iconst (v := nI 5) hx hb dL_law_139 (by decide) ?_
  refine lv_iload hx hb dL_law_140 (lv_at hl 8 rfl) ?_
  refine lv_imul hx hb dL_law_142 ?_
  refine gTop (y := (nI (5 * n))) (pk_mul _ _) ?_
  refine lv_iadd hx hb dL_law_143 ?_
  refine gTop (y := (nI (6 + 5 * n))) (nI_add _ _) ?_
  refine lv_istore (lv' := [(9, .int (nI (6 + 5 * n))), (0, .ref (G.2.2.2 259)), (1, .ref (am 0)), (2, .ref (ab 0)), (3, .ref ci), (4, .ref to), (5, .ref pe), (6, .int (nI np)), (7, .int (nI nt)), (8, .int (nI n))]) hx hb dL_law_144 hl (by decide) rfl (fun ls hl => ?_)
  refine lv_aload_n hx hb dL_law_146 rfl (lv_at hl 1 rfl) ?_
  refine lv_iload hx hb dL_law_147 (lv_at hl 0 rfl) ?_
  refine lv_bipush (v := nI 6) hx hb dL_law_149 (by decide) ?_
  refine gCSJ (As := [.ref (G.2.2.2 259), .int (nI (6 + 5 * n)), .int (nI 6)]) (rest := []) hE (c_drawn l G (6 + 5 * n) 6 (by omega) (by omega) (by omega)) (va_cwS 3 hts gL_law_L_drawn rfl rfl rfl (by decide +kernel) ⟨Nat.le_of_ble_eq_true rfl, Nat.le_of_ble_eq_true rfl⟩) ⟨hx, hb, hml, hown, hts⟩ hK hP hD hS hA (gJz ([(ci, .inl (G.2.2.1 0, 4, .inl (nA C))), (pe, .inl (G.2.2.1 1, 8, .inr (.inr (.inr (.inr pf)))))] ++ (dW G am zm ++ (dW G ab zb ++ (tlW G to tn tn tq tN tf ++ (va_pl LP (iF G D))))))) rfl hl rfl (Nat.le_of_ble_eq_true rfl) dL_law_151 ⟨Nat.le_trans (show c + 0 ≤ 500000 by omega) hR.1, Nat.le_trans (show t + 0 ≤ 6000000 by omega) hR.2⟩ (fun x22 H locs hu hP hD hS => ?_)
  have hx22 : x22 < 6 := hu
  have hP : va_P (gD G) vwCl ([(ci, .inl (G.2.2.1 0, 4, .inl (nA C))), (pe, .inl (G.2.2.1 1, 8, .inr (.inr (.inr (.inr pf)))))] ++ (dW G am zm ++ (dW G ab zb ++ (tlW G to tn tn tq tN tf ++ (va_pl LP (iF G D)))))) H := hP
  have hD : va_D A ([(ci, .inl (G.2.2.1 0, 4, .inl (nA C))), (pe, .inl (G.2.2.1 1, 8, .inr (.inr (.inr (.inr pf)))))] ++ (dW G am zm ++ (dW G ab zb ++ (tlW G to tn tn tq tN tf ++ (va_pl LP (iF G D)))))) := hD
  refine W.widen (k := c) (n := t) (by show c + 0 ≤ c; omega) (by show t + 0 ≤ t; omega) ?_
  refine W.eq (g2 := F0 m9 154 ls [.int (nI x22)]) rfl ?_
  refine lv_istore (lv' := [(10, .int (nI x22)), (9, .int (nI (6 + 5 * n))), (0, .ref (G.2.2.2 259)), (1, .ref (am 0)), (2, .ref (ab 0)), (3, .ref ci), (4, .ref to), (5, .ref pe), (6, .int (nI np)), (7, .int (nI nt)), (8, .int (nI n))]) hx hb dL_law_154 hl (by decide) rfl (fun ls hl => ?_)
  refine lv_aload_n hx hb dL_law_156 rfl (lv_at hl 2 rfl) ?_
  refine lv_iload hx hb dL_law_157 (lv_at hl 1 rfl) ?_
  refine lv_iconst (v := nI 1) hx hb dL_law_159 (by decide) ?_
  refine lv_iadd hx hb dL_law_160 ?_
  refine gTop (y := (nI (6 + 5 * n + 1))) (nI_add _ _) ?_
  refine lv_bipush (v := nI 6) hx hb dL_law_161 (by decide) ?_
  refine gCSJ (As := [.ref (G.2.2.2 259), .int (nI (6 + 5 * n + 1)), .int (nI 6)]) (rest := []) hE (c_drawn l G (6 + 5 * n + 1) 6 (by omega) (by omega) (by omega)) (va_cwS 3 hts gL_law_L_drawn rfl rfl rfl (by decide +kernel) ⟨Nat.le_of_ble_eq_true rfl, Nat.le_of_ble_eq_true rfl⟩) ⟨hx, hb, hml, hown, hts⟩ hK hP hD hS hA (gJz ([(ci, .inl (G.2.2.1 0, 4, .inl (nA C))), (pe, .inl (G.2.2.1 1, 8, .inr (.inr (.inr (.inr pf)))))] ++ (dW G am zm ++ (dW G ab zb ++ (tlW G to tn tn tq tN tf ++ (va_pl LP (iF G D))))))) rfl hl rfl (Nat.le_of_ble_eq_true rfl) dL_law_163 ⟨Nat.le_trans (show c + 0 ≤ 500000 by omega) hR.1, Nat.le_trans (show t + 0 ≤ 6000000 by omega) hR.2⟩ (fun x23 H locs hu hP hD hS => ?_)
  have hx23 : x23 < 6 := hu
  have hP : va_P (gD G) vwCl ([(ci, .inl (G.2.2.1 0, 4, .inl (nA C))), (pe, .inl (G.2.2.1 1, 8, .inr (.inr (.inr (.inr pf)))))] ++ (dW G am zm ++ (dW G ab zb ++ (tlW G to tn tn tq tN tf ++ (va_pl LP (iF G D)))))) H := hP
  have hD : va_D A ([(ci, .inl (G.2.2.1 0, 4, .inl (nA C))), (pe, .inl (G.2.2.1 1, 8, .inr (.inr (.inr (.inr pf)))))] ++ (dW G am zm ++ (dW G ab zb ++ (tlW G to tn tn tq tN tf ++ (va_pl LP (iF G D)))))) := hD
  refine W.widen (k := c) (n := t) (by show c + 0 ≤ c; omega) (by show t + 0 ≤ t; omega) ?_
  refine W.eq (g2 := F0 m9 166 ls [.int (nI x23)]) rfl ?_
  refine lv_istore (lv' := [(11, .int (nI x23)), (10, .int (nI x22)), (9, .int (nI (6 + 5 * n))), (0, .ref (G.2.2.2 259)), (1, .ref (am 0)), (2, .ref (ab 0)), (3, .ref ci), (4, .ref to), (5, .ref pe), (6, .int (nI np)), (7, .int (nI nt)), (8, .int (nI n))]) hx hb dL_law_166 hl (by decide) rfl (fun ls hl => ?_)
  refine lv_aload_n hx hb dL_law_168 rfl (lv_at hl 3 rfl) ?_
  refine lv_iload hx hb dL_law_169 (lv_at hl 2 rfl) ?_
  refine lv_iconst (v := nI 2) hx hb dL_law_171 (by decide) ?_
  refine lv_iadd hx hb dL_law_172 ?_
  refine gTop (y := (nI (6 + 5 * n + 2))) (nI_add _ _) ?_
  refine lv_bipush (v := nI 8) hx hb dL_law_173 (by decide) ?_
  refine gCSJ (As := [.ref (G.2.2.2 259), .int (nI (6 + 5 * n + 2)), .int (nI 8)]) (rest := []) hE (c_drawn l G (6 + 5 * n + 2) 8 (by omega) (by omega) (by omega)) (va_cwS 3 hts gL_law_L_drawn rfl rfl rfl (by decide +kernel) ⟨Nat.le_of_ble_eq_true rfl, Nat.le_of_ble_eq_true rfl⟩) ⟨hx, hb, hml, hown, hts⟩ hK hP hD hS hA (gJz ([(ci, .inl (G.2.2.1 0, 4, .inl (nA C))), (pe, .inl (G.2.2.1 1, 8, .inr (.inr (.inr (.inr pf)))))] ++ (dW G am zm ++ (dW G ab zb ++ (tlW G to tn tn tq tN tf ++ (va_pl LP (iF G D))))))) rfl hl rfl (Nat.le_of_ble_eq_true rfl) dL_law_175 ⟨Nat.le_trans (show c + 0 ≤ 500000 by omega) hR.1, Nat.le_trans (show t + 0 ≤ 6000000 by omega) hR.2⟩ (fun x24 H locs hu hP hD hS => ?_)
  have hx24 : x24 < 8 := hu
  have hP : va_P (gD G) vwCl ([(ci, .inl (G.2.2.1 0, 4, .inl (nA C))), (pe, .inl (G.2.2.1 1, 8, .inr (.inr (.inr (.inr pf)))))] ++ (dW G am zm ++ (dW G ab zb ++ (tlW G to tn tn tq tN tf ++ (va_pl LP (iF G D)))))) H := hP
  have hD : va_D A ([(ci, .inl (G.2.2.1 0, 4, .inl (nA C))), (pe, .inl (G.2.2.1 1, 8, .inr (.inr (.inr (.inr pf)))))] ++ (dW G am zm ++ (dW G ab zb ++ (tlW G to tn tn tq tN tf ++ (va_pl LP (iF G D)))))) := hD
  refine W.widen (k := c) (n := t) (by show c + 0 ≤ c; omega) (by show t + 0 ≤ t; omega) ?_
  refine W.eq (g2 := F0 m9 178 ls [.int (nI x24)]) rfl ?_
  rcases (show x24 = 0 ∨ x24 = 1 ∨ x24 = 2 ∨ x24 = 3 ∨ x24 = 4 ∨ x24 = 5 ∨ x24 = 6 ∨ x24 = 7 by omega) with rfl | rfl | rfl | rfl | rfl | rfl | rfl | rfl
  · refine lv_tableIn (off := 34) (tgt := 212) hx hb dL_law_178 (by decide) (by decide) rfl rfl ?_
    exact K212 zm zb C tn tq tN tf LP D pf np nt x22 x23 hI hx22 hx23 _ _ (gtP hP [0, 1] rfl) (gtD hD [0, 1] (by decide) rfl) hS _ (lv_sub hl [3, 4, 5, 6, 7, 8, 9, 10, 11, 2, 1, 0] rfl)
  · refine lv_tableIn (off := 85) (tgt := 263) hx hb dL_law_178 (by decide) (by decide) rfl rfl ?_
    exact K263 zm zb C tn tq tN tf LP D pf np nt x22 x23 hI hx22 hx23 _ _ (gtP hP [0, 1] rfl) (gtD hD [0, 1] (by decide) rfl) hS _ (lv_sub hl [3, 4, 5, 6, 7, 8, 9, 10, 11, 2, 1, 0] rfl)
  · refine lv_tableIn (off := 113) (tgt := 291) hx hb dL_law_178 (by decide) (by decide) rfl rfl ?_
    exact K291 zm zb C tn tq tN tf LP D pf np nt x22 x23 hI hx22 hx23 _ _ (gtP hP [0, 1] rfl) (gtD hD [0, 1] (by decide) rfl) hS _ (lv_sub hl [3, 4, 5, 6, 7, 8, 9, 10, 11, 2, 1, 0] rfl)
  · refine lv_tableIn (off := 155) (tgt := 333) hx hb dL_law_178 (by decide) (by decide) rfl rfl ?_
    exact K333 zm zb C tn tq tN tf LP D pf np nt x22 x23 hI hx22 hx23 _ _ (gtP hP [0, 1] rfl) (gtD hD [0, 1] (by decide) rfl) hS _ (lv_sub hl [3, 4, 5, 6, 7, 8, 9, 10, 11, 2, 1, 0] rfl)
  · refine lv_tableIn (off := 217) (tgt := 395) hx hb dL_law_178 (by decide) (by decide) rfl rfl ?_
    exact K395 zm zb C tn tq tN tf LP D pf np nt x22 x23 hI hx22 hx23 _ _ (gtP hP [0, 1] rfl) (gtD hD [0, 1] (by decide) rfl) hS _ (lv_sub hl [3, 4, 5, 6, 7, 8, 9, 10, 11, 2, 1, 0] rfl)
  · refine lv_tableOut (tgt := 493) hx hb dL_law_178 (by decide) rfl ?_
    exact K493 zm zb C tn tq tN tf LP D pf np nt x22 x23 hI hx22 hx23 _ _ (gtP hP [0, 1] rfl) (gtD hD [0, 1] (by decide) rfl) hS _ (lv_sub hl [3, 4, 5, 6, 7, 8, 9, 10, 11, 2, 1, 0] rfl)
  · refine lv_tableOut (tgt := 493) hx hb dL_law_178 (by decide) rfl ?_
    exact K493 zm zb C tn tq tN tf LP D pf np nt x22 x23 hI hx22 hx23 _ _ (gtP hP [0, 1] rfl) (gtD hD [0, 1] (by decide) rfl) hS _ (lv_sub hl [3, 4, 5, 6, 7, 8, 9, 10, 11, 2, 1, 0] rfl)
  · refine lv_tableOut (tgt := 493) hx hb dL_law_178 (by decide) rfl ?_
    exact K493 zm zb C tn tq tN tf LP D pf np nt x22 x23 hI hx22 hx23 _ _ (gtP hP [0, 1] rfl) (gtD hD [0, 1] (by decide) rfl) hS _ (lv_sub hl [3, 4, 5, 6, 7, 8, 9, 10, 11, 2, 1, 0] rfl)
set_option maxHeartbeats 8000000 in
set_option maxRecDepth 100000 in
/-- behind the switch: every fourth round is checked -/
theorem lw_tail {P9 : Program} {l : Launch} {e9 : Env} {s : State} {m9 : MethodId} {args : Array Value} {below : List Frame} {meth : Method} {c9 : Code} {Q : State → Prop} {G : gG} {A : Nat → Prop} {am ab : Nat → Nat} {ci pe to : Nat} (hX : lX P9 s m9 c9 args G A) (n c t : Nat) (hn : n < 48) (K591 : HD P9 l e9 s m9 args below meth c9 Q G A am ab ci pe to 591 (n + 1) n c t) (K930 : HD P9 l e9 s m9 args below meth c9 Q G A am ab ci pe to 930 (n + 1) n c t) : HD P9 l e9 s m9 args below meth c9 Q G A am ab ci pe to 580 (n + 1) n c t := by
  obtain ⟨hx, hb, hml, hown, hts, hK, hA, hE, hR⟩ := id hX
  intro zm zb C tn tq tN tf LP D pf np nt hI H locs hP hD hS ls hl
  refine lv_iload hx hb dL_law_580 (lv_at hl 8 rfl) ?_
  refine lv_iconst (v := nI 4) hx hb dL_law_582 (by decide) ?_
  refine lv_irem hx hb dL_law_583 (by decide) ?_
  refine gTop (y := nI (n % 4)) (pk_rem (by omega) (by decide) (by decide)) ?_
  refine lv_iconst (v := nI 3) hx hb dL_law_584 (by decide) ?_
  refine gN_ge (tgt := 591) hx hb dL_law_585 (by decide) (by omega) (by decide) (fun c21 => ?_) (fun c21 => ?_)
  · exact K591 zm zb C tn tq tN tf LP D pf np nt hI _ _ (gtP hP [0, 1] rfl) (gtD hD [0, 1] (by decide) rfl) hS _ (lv_sub hl [0, 1, 2, 3, 4, 5, 6, 7, 8] rfl)
  · refine lv_goto (tgt := 930) hx hb dL_law_588 (by decide) ?_
    exact K930 zm zb C tn tq tN tf LP D pf np nt hI _ _ (gtP hP [0, 1] rfl) (gtD hD [0, 1] (by decide) rfl) hS _ (lv_sub hl [0, 1, 2, 3, 4, 5, 6, 7, 8] rfl)
set_option maxHeartbeats 8000000 in
set_option maxRecDepth 100000 in
/-- on to the next round -/
theorem lw_next {P9 : Program} {l : Launch} {e9 : Env} {s : State} {m9 : MethodId} {args : Array Value} {below : List Frame} {meth : Method} {c9 : Code} {Q : State → Prop} {G : gG} {A : Nat → Prop} {am ab : Nat → Nat} {ci pe to : Nat} (hX : lX P9 s m9 c9 args G A) (n c t c2 t2 : Nat) (hn : n < 48) (hc : c ≤ c2) (ht : t ≤ t2) (K : HD P9 l e9 s m9 args below meth c9 Q G A am ab ci pe to 130 (n + 1) (n + 1) c2 t2) : HD P9 l e9 s m9 args below meth c9 Q G A am ab ci pe to 930 (n + 1) n c t := by
  obtain ⟨hx, hb, hml, hown, hts, hK, hA, hE, hR⟩ := id hX
  intro zm zb C tn tq tN tf LP D pf np nt hI H locs hP hD hS ls hl
  refine lv_iinc (lv' := [(8, .int (nI (n + 1))), (0, .ref (G.2.2.2 259)), (1, .ref (am 0)), (2, .ref (ab 0)), (3, .ref ci), (4, .ref to), (5, .ref pe), (6, .int (nI np)), (7, .int (nI nt))]) hx hb dL_law_930 hl (k := 8) rfl (n_inc _) (by decide) rfl (fun ls hl => ?_)
  refine lv_goto (tgt := 130) hx hb dL_law_933 (by decide) ?_
  refine W.widen (k := c2) (n := t2) (by omega) (by omega) ?_
  exact K zm zb C tn tq tN tf LP D pf np nt hI _ _ (gtP hP [0, 1] rfl) (gtD hD [0, 1] (by decide) rfl) hS _ (lv_sub hl [1, 2, 3, 4, 5, 6, 7, 8, 0] rfl)
