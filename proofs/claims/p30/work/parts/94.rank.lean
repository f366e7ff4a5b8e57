theorem swap_ok {L : List Nat} {n rk pi : Nat} {A2 A3 : Nat → Nat} (h1 : ∀ i, i < n → A2 i ∈ L) (h2 : ∀ i j, i < n → j < n → A2 i = A2 j → i = j) (k1 : A3 rk = A2 pi) (k2 : A3 pi = A2 rk) (k3 : ∀ i, i ≠ rk → i ≠ pi → A3 i = A2 i) (hr : rk < n) (hp : pi < n) : (∀ i, i < n → A3 i ∈ L) ∧ ∀ i j, i < n → j < n → A3 i = A3 j → i = j := by
  refine ⟨fun i hi => ?_, fun i j hi hj e => ?_⟩
  · by_cases e1 : i = rk
    · rw [e1, k1]; exact h1 _ hp
    · by_cases e2 : i = pi
      · rw [e2, k2]; exact h1 _ hr
      · rw [k3 i e1 e2]; exact h1 _ hi
  · by_cases a1 : i = rk
    · rw [a1, k1] at e
      by_cases b1 : j = rk
      · omega
      · by_cases b2 : j = pi
        · rw [b2, k2] at e
          have := h2 _ _ hp hr e
          omega
        · rw [k3 j b1 b2] at e
          have := h2 _ _ hp hj e
          omega
    · by_cases a2 : i = pi
      · rw [a2, k2] at e
        by_cases b1 : j = rk
        · rw [b1, k1] at e
          have := h2 _ _ hr hp e
          omega
        · by_cases b2 : j = pi
          · omega
          · rw [k3 j b1 b2] at e
            have := h2 _ _ hr hj e
            omega
      · rw [k3 i a1 a2] at e
        by_cases b1 : j = rk
        · rw [b1, k1] at e
          have := h2 _ _ hi hp e
          omega
        · by_cases b2 : j = pi
          · rw [b2, k2] at e
            have := h2 _ _ hi hr e
            omega
          · rw [k3 j b1 b2] at e
            exact h2 _ _ hi hj e

def rm_c_rank_n : Room := { frames := 3, cells := 51, slots := 450, locals := 64 }
set_option maxHeartbeats 4000000 in
set_option maxRecDepth 100000 in
/-- c_rank_n -/
theorem c_rank_n (l : Launch) (G : gG) (h : Nat) (mo : Nat) (q : Nat) (n : Nat) (N : Nat) (fl : Nat → Option Nat) (v : Nat → Nat) (hn : n ≤ 48) (hnN : n ≤ N) (hN : N ≤ 300) (hfl : ∀ i, i < n → fl i = some (gI G (v i + 128))) (hv : ∀ i, i < n → v i < 64) : gMet (S := Nat) l G yL_rank wsL_rank rm_c_rank_n [.ref h, .int (-1)] [(h, .inr (2, [.int (nI mo), .ref q, .int (nI n)])), (q, .inl (G.2.2.1 4, N, .inr (.inr (.inr (.inr fl)))))] (fun rk => cnt (ld 1000003 (fun u => ∃ i, i < n ∧ u = bv (v i))) 8 rk ∧ rk ≤ 50) (fun rk => some (.int (nI rk))) (fun _ => [(h, .inr (2, [.int (nI mo), .ref q, .int (nI n)])), (q, .inl (G.2.2.1 4, N, .inr (.inr (.inr (.inr fl)))))]) := by
  refine gOf (maxL := 14) (ret := (some .int)) (cc := cL_rank) (by decide) rfl (Nat.le_of_ble_eq_true rfl) ?_
  intro P9 e9 s m9 args below meth c9 A ls H locs Q hQ hx hb hml hr hown hts hlocks hin hK hP hD hS hA hE hl
  have hown : s.vm.findClass RL = some m9.cls := hown
  have hl : lv_has ls 14 [(0, .ref h), (1, .int (-1))] := hl
  refine lv_aload_n hx hb dL_rank_0 rfl (lv_at hl 0 rfl) ?_
  refine gCFJ (ci := 2) (q0 := 0) (C := RJx4a65c) (As := []) (rest := []) hE (c_L_size l G h mo (.ref q) n) (va_cwF 0 hts gL_rank_Jx4a65c_size_8abf5_f23Jx4a65c rfl rfl rfl (hE.face 0 rfl) (by decide +kernel) ⟨Nat.le_of_ble_eq_true rfl, Nat.le_of_ble_eq_true rfl⟩) (hK.1 2 _ rfl).2 ⟨hx, hb, hml, hown, hts⟩ hK hP hD hS hA (gJn0 (wr := [(q, .inl (G.2.2.1 4, N, .inr (.inr (.inr (.inr fl)))))]) [0] [1] rfl rfl (by decide) (by decide) (by decide)) rfl rfl rfl hl rfl (Nat.le_of_ble_eq_true rfl) dL_rank_1 ⟨Nat.le_of_ble_eq_true rfl, Nat.le_of_ble_eq_true rfl⟩ (fun u9 H locs hu hP hD hS => ?_)
  have hP : va_P (gD G) vwCl [(q, .inl (G.2.2.1 4, N, .inr (.inr (.inr (.inr fl))))), (h, .inr (2, [.int (nI mo), .ref q, .int (nI n)]))] H := hP
  have hD : va_D A [(q, .inl (G.2.2.1 4, N, .inr (.inr (.inr (.inr fl))))), (h, .inr (2, [.int (nI mo), .ref q, .int (nI n)]))] := hD
  refine W.eq (g2 := F0 m9 6 ls [.int (nI n)]) rfl ?_
  refine lv_iload_n hx hb dL_rank_6 rfl (lv_at hl 1 rfl) ?_
  refine lv_if_ge (tgt := 14) hx hb dL_rank_7 (by decide) (fun h9 => absurd h9 (by decide)) (fun _ => ?_)
  refine lv_iconst (v := nI 0) hx hb dL_rank_10 (by decide) ?_
  refine lv_goto (tgt := 15) hx hb dL_rank_11 (by decide) ?_
  refine lv_iadd hx hb dL_rank_15 ?_
  refine gTop (y := (nI (n + 0))) (nI_add _ _) ?_
  refine gTop (y := nI n) rfl ?_
  refine lv_istore_n (lv' := [(2, .int (nI n)), (0, .ref h), (1, .int (-1))]) hx hb dL_rank_16 rfl hl (by decide) rfl (fun ls hl => ?_)
  refine lv_iload_n hx hb dL_rank_17 rfl (lv_at hl 0 rfl) ?_
  refine lv_bipush (v := nI 8) hx hb dL_rank_18 (by decide) ?_
  refine gL_mna (n := n) hx hb hown hE (hts (.classLink RL 29 "[[J") (by decide +kernel)) (hts (.arrayClass .long) (by decide +kernel)) hK hP hD hS hA (by omega) (Nat.le_of_ble_eq_true rfl) (Nat.le_of_ble_eq_true rfl) dL_rank_20 (fun oq ra H hra hP hD hS => ?_)
  have hP : va_P (gD G) vwCl ([(q, .inl (G.2.2.1 4, N, .inr (.inr (.inr (.inr fl))))), (h, .inr (2, [.int (nI mo), .ref q, .int (nI n)])), (oq, .inl (G.2.2.1 3, n, .inr (.inr (.inr (.inr (foA n ra))))))] ++ (va_pl ((List.range n).map ra) (lF G (fun _ _ => 0)))) H := hP
  have hD : va_D A ([(q, .inl (G.2.2.1 4, N, .inr (.inr (.inr (.inr fl))))), (h, .inr (2, [.int (nI mo), .ref q, .int (nI n)])), (oq, .inl (G.2.2.1 3, n, .inr (.inr (.inr (.inr (foA n ra))))))] ++ (va_pl ((List.range n).map ra) (lF G (fun _ _ => 0)))) := hD
  have hra9 : ∀ i, i < n → ra i ∈ ((List.range n).map ra) := fun i hi => List.mem_map.mpr ⟨i, List.mem_range.mpr hi, rfl⟩
  refine lv_astore_n (lv' := [(3, .ref oq), (2, .int (nI n)), (0, .ref h), (1, .int (-1))]) hx hb dL_rank_24 rfl hl (by decide) rfl (fun ls hl => ?_)
  refine lv_iconst (v := nI 0) hx hb dL_rank_25 (by decide) ?_
  refine lv_istore (lv' := [(4, .int (nI 0)), (3, .ref oq), (2, .int (nI n)), (0, .ref h), (1, .int (-1))]) hx hb dL_rank_26 hl (by decide) rfl (fun ls hl => ?_)
  suffices L1 : ∀ (n1 r : Nat) (Dv : Nat → Nat → Int), r + n1 = n → (∀ i, i < r → ∀ k, k < 8 → Dv (ra i) k = bv (v i) k) → ∀ (H : Heap) (locs : List Loc), va_P (gD G) vwCl ([(h, .inr (2, [.int (nI mo), .ref q, .int (nI n)])), (q, .inl (G.2.2.1 4, N, .inr (.inr (.inr (.inr fl))))), (oq, .inl (G.2.2.1 3, n, .inr (.inr (.inr (.inr (foA n ra))))))] ++ (va_pl ((List.range n).map ra) (lF G Dv))) H → va_D A ([(h, .inr (2, [.int (nI mo), .ref q, .int (nI n)])), (q, .inl (G.2.2.1 4, N, .inr (.inr (.inr (.inr fl))))), (oq, .inl (G.2.2.1 3, n, .inr (.inr (.inr (.inr (foA n ra))))))] ++ (va_pl ((List.range n).map ra) (lF G Dv))) → va_S A s.heap H locs → ∀ ls : Array Slot, lv_has ls 14 [(0, .ref h), (1, .int (-1)), (2, .int (nI n)), (3, .ref oq), (4, .int (nI r))] → W P9 l e9 rm_c_rank_n s m9 args below meth c9 H locs 51 450 Q (F0 m9 28 ls []) by
    exact L1 _ 0 (fun _ _ => 0) (Nat.add_sub_cancel' (by omega)) (fun i hi => absurd hi (Nat.not_lt_zero i)) _ _ (gtP hP [1, 0, 2] rfl) (gtD hD [1, 0, 2] (by decide) rfl) hS _ (lv_sub hl [3, 4, 2, 1, 0] rfl)
  intro n1
  induction n1 with
  | zero =>
    intro r Dv hi1 hD1 H locs hP hD hS ls hl
    refine lv_iload hx hb dL_rank_28 (lv_at hl 4 rfl) ?_
    refine lv_iload_n hx hb dL_rank_30 rfl (lv_at hl 2 rfl) ?_
    refine gN_ge (tgt := 98) hx hb dL_rank_31 (by decide) (by omega) (by omega) (fun c2 => ?_) (fun c2 => absurd c2 (by omega))
    have er : r = n := by omega
    have hR0 : RkI (fun u => ∃ i, i < n ∧ u = bv (v i)) n (fun i => Dv (ra i)) 0 0 := RkI_0' (fun i hi => ⟨bv (v i), ⟨i, hi, rfl⟩, (fun k hk => (hD1 i (by omega) k hk).symm)⟩) (fun u ⟨i, hi, e⟩ => ⟨i, hi, (fun k hk => by rw [e]; exact hD1 i (by omega) k hk)⟩) (fun i hi k hk => by show 0 ≤ Dv (ra i) k ∧ Dv (ra i) k < 1000003; rw [hD1 i (by omega) k hk]; show 0 ≤ bz _ ∧ bz _ < 1000003; generalize (v i).testBit k = b9; cases b9 <;> decide)
    refine lv_iconst (v := nI 0) hx hb dL_rank_98 (by decide) ?_
    refine lv_istore (lv' := [(4, .int (nI 0)), (0, .ref h), (1, .int (-1)), (2, .int (nI n)), (3, .ref oq)]) hx hb dL_rank_99 hl (by decide) rfl (fun ls hl => ?_)
    refine lv_iconst (v := nI 0) hx hb dL_rank_101 (by decide) ?_
    refine lv_istore (lv' := [(5, .int (nI 0)), (4, .int (nI 0)), (0, .ref h), (1, .int (-1)), (2, .int (nI n)), (3, .ref oq)]) hx hb dL_rank_102 hl (by decide) rfl (fun ls hl => ?_)
    suffices L3 : ∀ (n3 c : Nat) (rk : Nat) (Dm : Nat → Nat → Int) (A2 : Nat → Nat), c + n3 = 8 → (RkI (fun u => ∃ i, i < n ∧ u = bv (v i)) n (fun i => Dm (A2 i)) c rk) → ((∀ i, i < n → A2 i ∈ ((List.range n).map ra)) ∧ ∀ i j, i < n → j < n → A2 i = A2 j → i = j) → ∀ (H : Heap) (locs : List Loc), va_P (gD G) vwCl ([(h, .inr (2, [.int (nI mo), .ref q, .int (nI n)])), (q, .inl (G.2.2.1 4, N, .inr (.inr (.inr (.inr fl))))), (oq, .inl (G.2.2.1 3, n, .inr (.inr (.inr (.inr (foA n A2))))))] ++ (va_pl ((List.range n).map ra) (lF G Dm))) H → va_D A ([(h, .inr (2, [.int (nI mo), .ref q, .int (nI n)])), (q, .inl (G.2.2.1 4, N, .inr (.inr (.inr (.inr fl))))), (oq, .inl (G.2.2.1 3, n, .inr (.inr (.inr (.inr (foA n A2))))))] ++ (va_pl ((List.range n).map ra) (lF G Dm))) → va_S A s.heap H locs → ∀ ls : Array Slot, lv_has ls 14 [(0, .ref h), (1, .int (-1)), (2, .int (nI n)), (3, .ref oq), (4, .int (nI rk)), (5, .int (nI c))] → W P9 l e9 rm_c_rank_n s m9 args below meth c9 H locs 51 450 Q (F0 m9 104 ls []) by
      exact L3 _ 0 0 Dv ra (Nat.add_sub_cancel' (by omega)) hR0 (⟨hra9, hra⟩) _ _ (gtP hP [0, 1, 2] rfl) (gtD hD [0, 1, 2] (by decide) rfl) hS _ (lv_sub hl [2, 3, 4, 5, 1, 0] rfl)
    intro n3
    induction n3 with
    | zero =>
      intro c rk Dm A2 hi3 hR hm2 H locs hP hD hS ls hl
      refine lv_iload hx hb dL_rank_104 (lv_at hl 5 rfl) ?_
      refine lv_bipush (v := nI 8) hx hb dL_rank_106 (by decide) ?_
      refine gN_ge (tgt := 259) hx hb dL_rank_108 (by decide) (by omega) (by decide) (fun c4 => ?_) (fun c4 => absurd c4 (by omega))
      refine lv_iload hx hb dL_rank_259 (lv_at hl 4 rfl) ?_
      have hrk9 := hR.1
      have ec9 : c = 8 := by omega
      exact gIret (hQ := hQ) hx hb hr hlocks hP hD hS rk ⟨(by have h9 := hR.2.2.2.1; rw [ec9] at h9; exact h9), (show rk ≤ 50 by omega)⟩ (by rfl) [0, 1] (by decide) (by rfl) (Nat.le_of_ble_eq_true rfl) (Nat.le_of_ble_eq_true rfl) dL_rank_261
    | succ n3 ih3 =>
      intro c rk Dm A2 hi3 hR hm2 H locs hP hD hS ls hl
      refine lv_iload hx hb dL_rank_104 (lv_at hl 5 rfl) ?_
      refine lv_bipush (v := nI 8) hx hb dL_rank_106 (by decide) ?_
      refine gN_ge (tgt := 259) hx hb dL_rank_108 (by decide) (by omega) (by decide) (fun c5 => absurd c5 (by omega)) (fun c5 => ?_)
      have hrk := hR.1
      refine lv_iload hx hb dL_rank_111 (lv_at hl 4 rfl) ?_
      refine lv_istore (lv' := [(6, .int (nI rk)), (0, .ref h), (1, .int (-1)), (2, .int (nI n)), (3, .ref oq), (4, .int (nI rk)), (5, .int (nI c))]) hx hb dL_rank_113 hl (by decide) rfl (fun ls hl => ?_)
      suffices L6 : ∀ (n4 pi : Nat), pi + n4 = n → (rk ≤ pi ∧ ∀ i, rk ≤ i → i < pi → Dm (A2 i) c = 0) → ∀ (H : Heap) (locs : List Loc), va_P (gD G) vwCl ([(h, .inr (2, [.int (nI mo), .ref q, .int (nI n)])), (q, .inl (G.2.2.1 4, N, .inr (.inr (.inr (.inr fl))))), (oq, .inl (G.2.2.1 3, n, .inr (.inr (.inr (.inr (foA n A2))))))] ++ (va_pl ((List.range n).map ra) (lF G Dm))) H → va_D A ([(h, .inr (2, [.int (nI mo), .ref q, .int (nI n)])), (q, .inl (G.2.2.1 4, N, .inr (.inr (.inr (.inr fl))))), (oq, .inl (G.2.2.1 3, n, .inr (.inr (.inr (.inr (foA n A2))))))] ++ (va_pl ((List.range n).map ra) (lF G Dm))) → va_S A s.heap H locs → ∀ ls : Array Slot, lv_has ls 14 [(0, .ref h), (1, .int (-1)), (2, .int (nI n)), (3, .ref oq), (4, .int (nI rk)), (5, .int (nI c)), (6, .int (nI pi))] → W P9 l e9 rm_c_rank_n s m9 args below meth c9 H locs 51 450 Q (F0 m9 115 ls []) by
        exact L6 _ rk  (Nat.add_sub_cancel' (by omega)) (⟨Nat.le_refl rk, (fun i h1 h2 => absurd h2 (by omega))⟩) _ _ (gtP hP [0, 1, 2] rfl) (gtD hD [0, 1, 2] (by decide) rfl) hS _ (lv_sub hl [1, 2, 3, 4, 5, 6, 0] rfl)
      intro n4
      induction n4 with
      | zero =>
        intro pi hi4 hz H locs hP hD hS ls hl
        refine lv_iload hx hb dL_rank_115 (lv_at hl 6 rfl) ?_
        refine lv_iload_n hx hb dL_rank_117 rfl (lv_at hl 2 rfl) ?_
        refine gN_ge (tgt := 139) hx hb dL_rank_118 (by decide) (by omega) (by omega) (fun c7 => ?_) (fun c7 => absurd c7 (by omega))
        refine lv_iload hx hb dL_rank_139 (lv_at hl 6 rfl) ?_
        refine lv_iload_n hx hb dL_rank_141 rfl (lv_at hl 2 rfl) ?_
        refine gN_ne (tgt := 148) hx hb dL_rank_142 (by decide) (by omega) (by omega) (fun c142 => absurd (show pi = n by omega) c142) (fun c142 => ?_)
        refine lv_goto (tgt := 253) hx hb dL_rank_145 (by decide) ?_
        refine lv_iinc (lv' := [(5, .int (nI (c + 1))), (0, .ref h), (1, .int (-1)), (2, .int (nI n)), (3, .ref oq), (4, .int (nI rk)), (6, .int (nI pi))]) hx hb dL_rank_253 hl (k := 5) rfl (n_inc _) (by decide) rfl (fun ls hl => ?_)
        refine lv_goto (tgt := 104) hx hb dL_rank_256 (by decide) ?_
        exact ih3 (c + 1) rk Dm A2 (by omega) (RkI_skip hR (by omega) (fun i h1 h2 => hz.2 i h1 (by omega))) hm2 _ _ (gtP hP [0, 1, 2] rfl) (gtD hD [0, 1, 2] (by decide) rfl) hS _ (lv_sub hl [1, 2, 3, 4, 5, 0] rfl)
      | succ n4 ih4 =>
        intro pi hi4 hz H locs hP hD hS ls hl
        refine lv_iload hx hb dL_rank_115 (lv_at hl 6 rfl) ?_
        refine lv_iload_n hx hb dL_rank_117 rfl (lv_at hl 2 rfl) ?_
        refine gN_ge (tgt := 139) hx hb dL_rank_118 (by decide) (by omega) (by omega) (fun c8 => absurd c8 (by omega)) (fun c8 => ?_)
        refine lv_aload_n hx hb dL_rank_121 rfl (lv_at hl 3 rfl) ?_
        refine lv_iload hx hb dL_rank_122 (lv_at hl 6 rfl) ?_
        refine gR_aald hx hb hK hP 2 3 rfl rfl (by omega) (by omega) (if_pos (by omega)) dL_rank_124 ?_
        refine lv_iload hx hb dL_rank_125 (lv_at hl 5 rfl) ?_
        refine gL_ald (X := [(h, .inr (2, [.int (nI mo), .ref q, .int (nI n)])), (q, .inl (G.2.2.1 4, N, .inr (.inr (.inr (.inr fl))))), (oq, .inl (G.2.2.1 3, n, .inr (.inr (.inr (.inr (foA n A2))))))]) (D := Dm) hx hb hK hP (hm2.1 pi (by omega)) (by omega) dL_rank_127 ?_
        refine lv_lconst (v := iL 0) hx hb dL_rank_128 rfl ?_
        have hbd : 0 ≤ (Dm (A2 pi) c) ∧ (Dm (A2 pi) c) < 1000003 := hR.2.2.2.2.2 pi (by omega) c (by omega)
        have hzb : zl (Dm (A2 pi) c) := ⟨by have := hbd.1; omega, by have := hbd.2; omega⟩
        refine gL_ne0 (tgt := 139) hx hb dL_rank_129 dL_rank_130 (by decide) hzb (fun c129 => ?_) (fun c129 => ?_)
        · refine lv_iload hx hb dL_rank_139 (lv_at hl 6 rfl) ?_
          refine lv_iload_n hx hb dL_rank_141 rfl (lv_at hl 2 rfl) ?_
          refine gN_ne (tgt := 148) hx hb dL_rank_142 (by decide) (by omega) (by omega) (fun c142 => ?_) (fun c142 => absurd c142 (by omega))
          refine lv_aload_n hx hb dL_rank_148 rfl (lv_at hl 3 rfl) ?_
          refine lv_iload hx hb dL_rank_149 (lv_at hl 6 rfl) ?_
          refine gR_aald hx hb hK hP 2 3 rfl rfl (by omega) (by omega) (if_pos (by omega)) dL_rank_151 ?_
          refine lv_astore (lv' := [(7, .ref (A2 pi)), (0, .ref h), (1, .int (-1)), (2, .int (nI n)), (3, .ref oq), (4, .int (nI rk)), (5, .int (nI c)), (6, .int (nI pi))]) hx hb dL_rank_152 hl (by decide) rfl (fun ls hl => ?_)
          refine lv_aload_n hx hb dL_rank_154 rfl (lv_at hl 4 rfl) ?_
          refine lv_iload hx hb dL_rank_155 (lv_at hl 7 rfl) ?_
          refine lv_aload_n hx hb dL_rank_157 rfl (lv_at hl 4 rfl) ?_
          refine lv_iload hx hb dL_rank_158 (lv_at hl 5 rfl) ?_
          refine gR_aald hx hb hK hP 2 3 rfl rfl (by omega) (by omega) (if_pos (by omega)) dL_rank_160 ?_
          refine gR_ast (X := [(h, .inr (2, [.int (nI mo), .ref q, .int (nI n)])), (q, .inl (G.2.2.1 4, N, .inr (.inr (.inr (.inr fl))))), (oq, .inl (G.2.2.1 3, n, .inr (.inr (.inr (.inr (foA n A2))))))]) (q0 := 2) (f := foA n A2) (x := (8, .inr (.inl (lA (Dm (A2 rk)))))) hx hb hE hK hP hD hS 3 0 rfl hE.2.1.1.2.1 (hK.2 2 _ rfl).2 rfl (hm2.1 rk (by omega)) rfl (by omega) (by omega) dL_rank_161 (fun H locs hP hD hS => ?_)
          have hfU := foU (n := n) (p := pi) (x := (A2 rk)) (A := A2) (by omega)
          have hP : va_P (gD G) vwCl ([(h, .inr (2, [.int (nI mo), .ref q, .int (nI n)])), (q, .inl (G.2.2.1 4, N, .inr (.inr (.inr (.inr fl))))), (oq, .inl (G.2.2.1 3, n, .inr (.inr (.inr (.inr (va_up (foA n A2) pi (some (A2 rk))))))))] ++ (va_pl ((List.range n).map ra) (lF G Dm))) H := hP
          have hD : va_D A ([(h, .inr (2, [.int (nI mo), .ref q, .int (nI n)])), (q, .inl (G.2.2.1 4, N, .inr (.inr (.inr (.inr fl))))), (oq, .inl (G.2.2.1 3, n, .inr (.inr (.inr (.inr (va_up (foA n A2) pi (some (A2 rk))))))))] ++ (va_pl ((List.range n).map ra) (lF G Dm))) := hD
          rw [hfU] at hP hD
          have hP : va_P (gD G) vwCl ([(h, .inr (2, [.int (nI mo), .ref q, .int (nI n)])), (q, .inl (G.2.2.1 4, N, .inr (.inr (.inr (.inr fl))))), (oq, .inl (G.2.2.1 3, n, .inr (.inr (.inr (.inr (foA n (va_up A2 pi (A2 rk))))))))] ++ (va_pl ((List.range n).map ra) (lF G Dm))) H := hP
          have hD : va_D A ([(h, .inr (2, [.int (nI mo), .ref q, .int (nI n)])), (q, .inl (G.2.2.1 4, N, .inr (.inr (.inr (.inr fl))))), (oq, .inl (G.2.2.1 3, n, .inr (.inr (.inr (.inr (foA n (va_up A2 pi (A2 rk))))))))] ++ (va_pl ((List.range n).map ra) (lF G Dm))) := hD
          refine lv_aload_n hx hb dL_rank_162 rfl (lv_at hl 4 rfl) ?_
          refine lv_iload hx hb dL_rank_163 (lv_at hl 5 rfl) ?_
          refine lv_aload hx hb dL_rank_165 (lv_at hl 0 rfl) ?_
          refine gR_ast (X := [(h, .inr (2, [.int (nI mo), .ref q, .int (nI n)])), (q, .inl (G.2.2.1 4, N, .inr (.inr (.inr (.inr fl))))), (oq, .inl (G.2.2.1 3, n, .inr (.inr (.inr (.inr (foA n (va_up A2 pi (A2 rk))))))))]) (q0 := 2) (f := foA n (va_up A2 pi (A2 rk))) (x := (8, .inr (.inl (lA (Dm (A2 pi)))))) hx hb hE hK hP hD hS 3 0 rfl hE.2.1.1.2.1 (hK.2 2 _ rfl).2 rfl (hm2.1 pi (by omega)) rfl (by omega) (by omega) dL_rank_167 (fun H locs hP hD hS => ?_)
          have hfU := foU (n := n) (p := rk) (x := (A2 pi)) (A := (va_up A2 pi (A2 rk))) (by omega)
          have hP : va_P (gD G) vwCl ([(h, .inr (2, [.int (nI mo), .ref q, .int (nI n)])), (q, .inl (G.2.2.1 4, N, .inr (.inr (.inr (.inr fl))))), (oq, .inl (G.2.2.1 3, n, .inr (.inr (.inr (.inr (va_up (foA n (va_up A2 pi (A2 rk))) rk (some (A2 pi))))))))] ++ (va_pl ((List.range n).map ra) (lF G Dm))) H := hP
          have hD : va_D A ([(h, .inr (2, [.int (nI mo), .ref q, .int (nI n)])), (q, .inl (G.2.2.1 4, N, .inr (.inr (.inr (.inr fl))))), (oq, .inl (G.2.2.1 3, n, .inr (.inr (.inr (.inr (va_up (foA n (va_up A2 pi (A2 rk))) rk (some (A2 pi))))))))] ++ (va_pl ((List.range n).map ra) (lF G Dm))) := hD
          rw [hfU] at hP hD
          have hP : va_P (gD G) vwCl ([(h, .inr (2, [.int (nI mo), .ref q, .int (nI n)])), (q, .inl (G.2.2.1 4, N, .inr (.inr (.inr (.inr fl))))), (oq, .inl (G.2.2.1 3, n, .inr (.inr (.inr (.inr (foA n (va_up (va_up A2 pi (A2 rk)) rk (A2 pi))))))))] ++ (va_pl ((List.range n).map ra) (lF G Dm))) H := hP
          have hD : va_D A ([(h, .inr (2, [.int (nI mo), .ref q, .int (nI n)])), (q, .inl (G.2.2.1 4, N, .inr (.inr (.inr (.inr fl))))), (oq, .inl (G.2.2.1 3, n, .inr (.inr (.inr (.inr (foA n (va_up (va_up A2 pi (A2 rk)) rk (A2 pi))))))))] ++ (va_pl ((List.range n).map ra) (lF G Dm))) := hD
          obtain ⟨A3, hA3⟩ : ∃ z, z = (va_up (va_up A2 pi (A2 rk)) rk (A2 pi)) := ⟨_, rfl⟩
          rw [← hA3] at hP hD
          have hP : va_P (gD G) vwCl ([(h, .inr (2, [.int (nI mo), .ref q, .int (nI n)])), (q, .inl (G.2.2.1 4, N, .inr (.inr (.inr (.inr fl))))), (oq, .inl (G.2.2.1 3, n, .inr (.inr (.inr (.inr (foA n A3))))))] ++ (va_pl ((List.range n).map ra) (lF G Dm))) H := hP
          have hD : va_D A ([(h, .inr (2, [.int (nI mo), .ref q, .int (nI n)])), (q, .inl (G.2.2.1 4, N, .inr (.inr (.inr (.inr fl))))), (oq, .inl (G.2.2.1 3, n, .inr (.inr (.inr (.inr (foA n A3))))))] ++ (va_pl ((List.range n).map ra) (lF G Dm))) := hD
          have hk1 : A3 rk = A2 pi := by rw [hA3, va_up_self]
          have hk2 : A3 pi = A2 rk := by
              rw [hA3]
              by_cases e9 : pi = rk
              · rw [e9, va_up_self]
              · rw [va_up_ne _ _ e9, va_up_self]
          have hk3 : ∀ i, i ≠ rk → i ≠ pi → A3 i = A2 i := fun i h1 h2 => by rw [hA3, va_up_ne _ _ h1, va_up_ne _ _ h2]
          have hR3 : RkI (fun u => ∃ i, i < n ∧ u = bv (v i)) n (fun i => Dm (A3 i)) c rk := RkI_swap hR hz.1 (by omega) (congrArg Dm hk1) (congrArg Dm hk2) (fun i h1 h2 => congrArg Dm (hk3 i h1 h2))
          have hm3 : (∀ i, i < n → A3 i ∈ ((List.range n).map ra)) ∧ ∀ i j, i < n → j < n → A3 i = A3 j → i = j := swap_ok hm2.1 hm2.2 hk1 hk2 hk3 (by omega) (by omega)
          have hnz : Dm (A3 rk) c ≠ 0 := by rw [hk1]; exact c129
          rw [← hk1] at hl
          have hl : lv_has ls 14 [(7, .ref (A3 rk)), (0, .ref h), (1, .int (-1)), (2, .int (nI n)), (3, .ref oq), (4, .int (nI rk)), (5, .int (nI c)), (6, .int (nI pi))] := hl
          refine lv_iload hx hb dL_rank_168 (lv_at hl 5 rfl) ?_
          refine lv_iconst (v := nI 1) hx hb dL_rank_170 (by decide) ?_
          refine lv_iadd hx hb dL_rank_171 ?_
          refine gTop (y := (nI (rk + 1))) (nI_add _ _) ?_
          refine lv_istore (lv' := [(8, .int (nI (rk + 1))), (7, .ref (A3 rk)), (0, .ref h), (1, .int (-1)), (2, .int (nI n)), (3, .ref oq), (4, .int (nI rk)), (5, .int (nI c)), (6, .int (nI pi))]) hx hb dL_rank_172 hl (by decide) rfl (fun ls hl => ?_)
          suffices L9 : ∀ (n5 r : Nat) (Dn : Nat → Nat → Int), r + n5 = n → (rk + 1 ≤ r ∧ (∀ i, i < n → (i ≤ rk ∨ r ≤ i) → ∀ k, k < 8 → Dn (A3 i) k = Dm (A3 i) k) ∧ ∀ i, rk < i → i < r → ∀ k, k < 8 → Dn (A3 i) k = (Dm (A3 i) k * Dm (A3 rk) c - Dm (A3 rk) k * Dm (A3 i) c) % 1000003) → ∀ (H : Heap) (locs : List Loc), va_P (gD G) vwCl ([(h, .inr (2, [.int (nI mo), .ref q, .int (nI n)])), (q, .inl (G.2.2.1 4, N, .inr (.inr (.inr (.inr fl))))), (oq, .inl (G.2.2.1 3, n, .inr (.inr (.inr (.inr (foA n A3))))))] ++ (va_pl ((List.range n).map ra) (lF G Dn))) H → va_D A ([(h, .inr (2, [.int (nI mo), .ref q, .int (nI n)])), (q, .inl (G.2.2.1 4, N, .inr (.inr (.inr (.inr fl))))), (oq, .inl (G.2.2.1 3, n, .inr (.inr (.inr (.inr (foA n A3))))))] ++ (va_pl ((List.range n).map ra) (lF G Dn))) → va_S A s.heap H locs → ∀ ls : Array Slot, lv_has ls 14 [(0, .ref h), (1, .int (-1)), (2, .int (nI n)), (3, .ref oq), (4, .int (nI rk)), (5, .int (nI c)), (7, .ref (A3 rk)), (8, .int (nI r))] → W P9 l e9 rm_c_rank_n s m9 args below meth c9 H locs 51 450 Q (F0 m9 174 ls []) by
            exact L9 _ (rk + 1) Dm (Nat.add_sub_cancel' (by omega)) (⟨Nat.le_refl _, (fun i _ _ k _ => rfl), (fun i h1 h2 => absurd h2 (by omega))⟩) _ _ (gtP hP [0, 1, 2] rfl) (gtD hD [0, 1, 2] (by decide) rfl) hS _ (lv_sub hl [2, 3, 4, 5, 6, 7, 1, 0] rfl)
          intro n5
          induction n5 with
          | zero =>
            intro r Dn hi5 hEE H locs hP hD hS ls hl
            refine lv_iload hx hb dL_rank_174 (lv_at hl 7 rfl) ?_
            refine lv_iload_n hx hb dL_rank_176 rfl (lv_at hl 2 rfl) ?_
            refine gN_ge (tgt := 250) hx hb dL_rank_177 (by decide) (by omega) (by omega) (fun c10 => ?_) (fun c10 => absurd c10 (by omega))
            refine lv_iinc (lv' := [(4, .int (nI (rk + 1))), (0, .ref h), (1, .int (-1)), (2, .int (nI n)), (3, .ref oq), (5, .int (nI c)), (7, .ref (A3 rk)), (8, .int (nI r))]) hx hb dL_rank_250 hl (k := 4) rfl (n_inc _) (by decide) rfl (fun ls hl => ?_)
            refine lv_iinc (lv' := [(5, .int (nI (c + 1))), (4, .int (nI (rk + 1))), (0, .ref h), (1, .int (-1)), (2, .int (nI n)), (3, .ref oq), (7, .ref (A3 rk)), (8, .int (nI r))]) hx hb dL_rank_253 hl (k := 5) rfl (n_inc _) (by decide) rfl (fun ls hl => ?_)
            refine lv_goto (tgt := 104) hx hb dL_rank_256 (by decide) ?_
            exact ih3 (c + 1) (rk + 1) Dn A3 (by omega) (RkI_piv hR3 (by omega) (by omega) hnz (fun i hi k hk => hEE.2.1 i (by omega) (Or.inl hi) k hk) (fun i hi hin k hk => hEE.2.2 i hi (by omega) k hk)) hm3 _ _ (gtP hP [0, 1, 2] rfl) (gtD hD [0, 1, 2] (by decide) rfl) hS _ (lv_sub hl [2, 3, 4, 5, 1, 0] rfl)
          | succ n5 ih5 =>
            intro r Dn hi5 hEE H locs hP hD hS ls hl
            refine lv_iload hx hb dL_rank_174 (lv_at hl 7 rfl) ?_
            refine lv_iload_n hx hb dL_rank_176 rfl (lv_at hl 2 rfl) ?_
            refine gN_ge (tgt := 250) hx hb dL_rank_177 (by decide) (by omega) (by omega) (fun c11 => absurd c11 (by omega)) (fun c11 => ?_)
            refine lv_aload_n hx hb dL_rank_180 rfl (lv_at hl 3 rfl) ?_
            refine lv_iload hx hb dL_rank_181 (lv_at hl 7 rfl) ?_
            refine gR_aald hx hb hK hP 2 3 rfl rfl (by omega) (by omega) (if_pos (by omega)) dL_rank_183 ?_
            refine lv_iload hx hb dL_rank_184 (lv_at hl 5 rfl) ?_
            refine gL_ald (X := [(h, .inr (2, [.int (nI mo), .ref q, .int (nI n)])), (q, .inl (G.2.2.1 4, N, .inr (.inr (.inr (.inr fl))))), (oq, .inl (G.2.2.1 3, n, .inr (.inr (.inr (.inr (foA n A3))))))]) (D := Dn) hx hb hK hP (hm3.1 r (by omega)) (by omega) dL_rank_186 ?_
            refine gTopL (y := iL (Dm (A3 r) c)) (congrArg iL (hEE.2.1 r (by omega) (Or.inr (Nat.le_refl r)) c (by omega))) ?_
            refine lv_lstore (lv' := [(9, .long (iL (Dm (A3 r) c))), (0, .ref h), (1, .int (-1)), (2, .int (nI n)), (3, .ref oq), (4, .int (nI rk)), (5, .int (nI c)), (7, .ref (A3 rk)), (8, .int (nI r))]) hx hb dL_rank_187 hl (by decide) rfl (fun ls hl => ?_)
            refine lv_aload hx hb dL_rank_189 (lv_at hl 7 rfl) ?_
            refine lv_iload hx hb dL_rank_191 (lv_at hl 6 rfl) ?_
            refine gL_ald (X := [(h, .inr (2, [.int (nI mo), .ref q, .int (nI n)])), (q, .inl (G.2.2.1 4, N, .inr (.inr (.inr (.inr fl))))), (oq, .inl (G.2.2.1 3, n, .inr (.inr (.inr (.inr (foA n A3))))))]) (D := Dn) hx hb hK hP (hm3.1 rk (by omega)) (by omega) dL_rank_193 ?_
            refine gTopL (y := iL (Dm (A3 rk) c)) (congrArg iL (hEE.2.1 rk (by omega) (Or.inl (Nat.le_refl rk)) c (by omega))) ?_
            refine lv_lstore (lv' := [(11, .long (iL (Dm (A3 rk) c))), (9, .long (iL (Dm (A3 r) c))), (0, .ref h), (1, .int (-1)), (2, .int (nI n)), (3, .ref oq), (4, .int (nI rk)), (5, .int (nI c)), (7, .ref (A3 rk)), (8, .int (nI r))]) hx hb dL_rank_194 hl (by decide) rfl (fun ls hl => ?_)
            refine lv_iconst (v := nI 0) hx hb dL_rank_196 (by decide) ?_
            refine lv_istore (lv' := [(13, .int (nI 0)), (11, .long (iL (Dm (A3 rk) c))), (9, .long (iL (Dm (A3 r) c))), (0, .ref h), (1, .int (-1)), (2, .int (nI n)), (3, .ref oq), (4, .int (nI rk)), (5, .int (nI c)), (7, .ref (A3 rk)), (8, .int (nI r))]) hx hb dL_rank_197 hl (by decide) rfl (fun ls hl => ?_)
            suffices L12 : ∀ (n6 k : Nat) (Do : Nat → Nat → Int), k + n6 = 8 → ((∀ i, i < n → i ≠ r → ∀ k, k < 8 → Do (A3 i) k = Dn (A3 i) k) ∧ ∀ j, j < 8 → Do (A3 r) j = if j < k then (Dm (A3 r) j * Dm (A3 rk) c - Dm (A3 rk) j * Dm (A3 r) c) % 1000003 else Dm (A3 r) j) → ∀ (H : Heap) (locs : List Loc), va_P (gD G) vwCl ([(h, .inr (2, [.int (nI mo), .ref q, .int (nI n)])), (q, .inl (G.2.2.1 4, N, .inr (.inr (.inr (.inr fl))))), (oq, .inl (G.2.2.1 3, n, .inr (.inr (.inr (.inr (foA n A3))))))] ++ (va_pl ((List.range n).map ra) (lF G Do))) H → va_D A ([(h, .inr (2, [.int (nI mo), .ref q, .int (nI n)])), (q, .inl (G.2.2.1 4, N, .inr (.inr (.inr (.inr fl))))), (oq, .inl (G.2.2.1 3, n, .inr (.inr (.inr (.inr (foA n A3))))))] ++ (va_pl ((List.range n).map ra) (lF G Do))) → va_S A s.heap H locs → ∀ ls : Array Slot, lv_has ls 14 [(0, .ref h), (1, .int (-1)), (2, .int (nI n)), (3, .ref oq), (4, .int (nI rk)), (5, .int (nI c)), (7, .ref (A3 rk)), (8, .int (nI r)), (9, .long (iL (Dm (A3 r) c))), (11, .long (iL (Dm (A3 rk) c))), (13, .int (nI k))] → W P9 l e9 rm_c_rank_n s m9 args below meth c9 H locs 51 450 Q (F0 m9 199 ls []) by
              exact L12 _ 0 Dn (Nat.add_sub_cancel' (by omega)) (⟨(fun i _ _ k _ => rfl), (fun j hj => (hEE.2.1 r (by omega) (Or.inr (Nat.le_refl r)) j hj).trans (if_neg (Nat.not_lt_zero j)).symm)⟩) _ _ (gtP hP [0, 1, 2] rfl) (gtD hD [0, 1, 2] (by decide) rfl) hS _ (lv_sub hl [3, 4, 5, 6, 7, 8, 9, 10, 2, 1, 0] rfl)
            intro n6
            induction n6 with
            | zero =>
              intro k Do hi6 hFF H locs hP hD hS ls hl
              refine lv_iload hx hb dL_rank_199 (lv_at hl 10 rfl) ?_
              refine lv_bipush (v := nI 8) hx hb dL_rank_201 (by decide) ?_
              refine gN_ge (tgt := 244) hx hb dL_rank_203 (by decide) (by omega) (by decide) (fun c13 => ?_) (fun c13 => absurd c13 (by omega))
              refine lv_iinc (lv' := [(8, .int (nI (r + 1))), (0, .ref h), (1, .int (-1)), (2, .int (nI n)), (3, .ref oq), (4, .int (nI rk)), (5, .int (nI c)), (7, .ref (A3 rk)), (9, .long (iL (Dm (A3 r) c))), (11, .long (iL (Dm (A3 rk) c))), (13, .int (nI k))]) hx hb dL_rank_244 hl (k := 7) rfl (n_inc _) (by decide) rfl (fun ls hl => ?_)
              refine lv_goto (tgt := 174) hx hb dL_rank_247 (by decide) ?_
              exact ih5 (r + 1) Do (by omega) (⟨by omega, (fun i hi h9 k hk => (hFF.1 i hi (by omega) k hk).trans (hEE.2.1 i hi (by omega) k hk)), (fun i h1 h2 k2 hk => if e9 : i = r then (by rw [e9, hFF.2 k2 hk, if_pos (by omega)]) else (hFF.1 i (by omega) e9 k2 hk).trans (hEE.2.2 i h1 (by omega) k2 hk))⟩) _ _ (gtP hP [0, 1, 2] rfl) (gtD hD [0, 1, 2] (by decide) rfl) hS _ (lv_sub hl [1, 2, 3, 4, 5, 6, 7, 0] rfl)
            | succ n6 ih6 =>
              intro k Do hi6 hFF H locs hP hD hS ls hl
              refine lv_iload hx hb dL_rank_199 (lv_at hl 10 rfl) ?_
              refine lv_bipush (v := nI 8) hx hb dL_rank_201 (by decide) ?_
              refine gN_ge (tgt := 244) hx hb dL_rank_203 (by decide) (by omega) (by decide) (fun c14 => absurd c14 (by omega)) (fun c14 => ?_)
              refine lv_aload_n hx hb dL_rank_206 rfl (lv_at hl 3 rfl) ?_
              refine lv_iload hx hb dL_rank_207 (lv_at hl 7 rfl) ?_
              refine gR_aald hx hb hK hP 2 3 rfl rfl (by omega) (by omega) (if_pos (by omega)) dL_rank_209 ?_
              refine lv_iload hx hb dL_rank_210 (lv_at hl 10 rfl) ?_
              refine lv_aload_n hx hb dL_rank_212 rfl (lv_at hl 3 rfl) ?_
              refine lv_iload hx hb dL_rank_213 (lv_at hl 7 rfl) ?_
              refine gR_aald hx hb hK hP 2 3 rfl rfl (by omega) (by omega) (if_pos (by omega)) dL_rank_215 ?_
              refine lv_iload hx hb dL_rank_216 (lv_at hl 10 rfl) ?_
              refine gL_ald (X := [(h, .inr (2, [.int (nI mo), .ref q, .int (nI n)])), (q, .inl (G.2.2.1 4, N, .inr (.inr (.inr (.inr fl))))), (oq, .inl (G.2.2.1 3, n, .inr (.inr (.inr (.inr (foA n A3))))))]) (D := Do) hx hb hK hP (hm3.1 r (by omega)) (by omega) dL_rank_218 ?_
              refine gTopL (y := iL (Dm (A3 r) k)) (congrArg iL ((hFF.2 k (by omega)).trans (if_neg (Nat.lt_irrefl k)))) ?_
              refine lv_lload hx hb dL_rank_219 (lv_at hl 9 rfl) ?_
              refine lv_lmul hx hb dL_rank_221 ?_
              refine gTopL (y := iL ((Dm (A3 r) k) * (Dm (A3 rk) c))) (iL_mul _ _) ?_
              refine lv_aload hx hb dL_rank_222 (lv_at hl 6 rfl) ?_
              refine lv_iload hx hb dL_rank_224 (lv_at hl 10 rfl) ?_
              refine gL_ald (X := [(h, .inr (2, [.int (nI mo), .ref q, .int (nI n)])), (q, .inl (G.2.2.1 4, N, .inr (.inr (.inr (.inr fl))))), (oq, .inl (G.2.2.1 3, n, .inr (.inr (.inr (.inr (foA n A3))))))]) (D := Do) hx hb hK hP (hm3.1 rk (by omega)) (by omega) dL_rank_226 ?_
              refine gTopL (y := iL (Dm (A3 rk) k)) (congrArg iL ((hFF.1 rk (by omega) (by omega) k (by omega)).trans (hEE.2.1 rk (by omega) (Or.inl (Nat.le_refl rk)) k (by omega)))) ?_
              refine lv_lload hx hb dL_rank_227 (lv_at hl 8 rfl) ?_
              refine lv_lmul hx hb dL_rank_229 ?_
              refine gTopL (y := iL ((Dm (A3 rk) k) * (Dm (A3 r) c))) (iL_mul _ _) ?_
              refine lv_lsub hx hb dL_rank_230 ?_
              refine gTopL (y := iL (((Dm (A3 r) k) * (Dm (A3 rk) c)) - ((Dm (A3 rk) k) * (Dm (A3 r) c)))) (iL_sub _ _) ?_
              refine lv_ldc2 (v := 1000003) hx hb hown (hts (.constantLong RL 40 (1000003)) (by decide +kernel)) dL_rank_231 ?_
              refine gTopL (y := iL 1000003) rfl ?_
              have hb1 := mulq (x := Dm (A3 r) k) (y := Dm (A3 rk) c) (hR3.2.2.2.2.2 r (by omega) k (by omega)) (hR3.2.2.2.2.2 rk (by omega) c (by omega))
              have hb2 := mulq (x := Dm (A3 rk) k) (y := Dm (A3 r) c) (hR3.2.2.2.2.2 rk (by omega) k (by omega)) (hR3.2.2.2.2.2 r (by omega) c (by omega))
              have hzb2 : zl (((Dm (A3 r) k) * (Dm (A3 rk) c)) - ((Dm (A3 rk) k) * (Dm (A3 r) c))) := ⟨by have := hb1.1; have := hb2.2; omega, by have := hb1.2; have := hb2.1; omega⟩
              refine gL_fm (z := (((Dm (A3 r) k) * (Dm (A3 rk) c)) - ((Dm (A3 rk) k) * (Dm (A3 r) c)))) hx hb (hml.trans hl.1.symm) hown (hts (.methodLink RL 42 yJ9_floorMod_f86c9) (by decide +kernel)) (hts (.static yJ9_floorMod_f86c9) (by decide +kernel)) (hts (.initialized RJ9) (by decide +kernel)) (hts (.code yJ9_floorMod_f86c9 cJ9_floorMod_f86c9 6 (some .long)) (by decide +kernel)) (Nat.le_of_ble_eq_true rfl) (Nat.le_of_ble_eq_true rfl) (Nat.le_of_ble_eq_true rfl) (Nat.le_of_ble_eq_true rfl) hzb2 dL_rank_234 ?_
              refine gL_ast (X := [(h, .inr (2, [.int (nI mo), .ref q, .int (nI n)])), (q, .inl (G.2.2.1 4, N, .inr (.inr (.inr (.inr fl))))), (oq, .inl (G.2.2.1 3, n, .inr (.inr (.inr (.inr (foA n A3))))))]) (D := Do) hx hb hK hP hD hS (hm3.1 r (by omega)) (by omega) dL_rank_237 (fun H locs hP hD hS => ?_)
              have hP : va_P (gD G) vwCl ([(h, .inr (2, [.int (nI mo), .ref q, .int (nI n)])), (q, .inl (G.2.2.1 4, N, .inr (.inr (.inr (.inr fl))))), (oq, .inl (G.2.2.1 3, n, .inr (.inr (.inr (.inr (foA n A3))))))] ++ (va_pl ((List.range n).map ra) (lF G (va_up Do (A3 r) (va_up (Do (A3 r)) k ((((Dm (A3 r) k) * (Dm (A3 rk) c)) - ((Dm (A3 rk) k) * (Dm (A3 r) c))) % 1000003)))))) H := hP
              have hD : va_D A ([(h, .inr (2, [.int (nI mo), .ref q, .int (nI n)])), (q, .inl (G.2.2.1 4, N, .inr (.inr (.inr (.inr fl))))), (oq, .inl (G.2.2.1 3, n, .inr (.inr (.inr (.inr (foA n A3))))))] ++ (va_pl ((List.range n).map ra) (lF G (va_up Do (A3 r) (va_up (Do (A3 r)) k ((((Dm (A3 r) k) * (Dm (A3 rk) c)) - ((Dm (A3 rk) k) * (Dm (A3 r) c))) % 1000003)))))) := hD
              refine lv_iinc (lv' := [(13, .int (nI (k + 1))), (0, .ref h), (1, .int (-1)), (2, .int (nI n)), (3, .ref oq), (4, .int (nI rk)), (5, .int (nI c)), (7, .ref (A3 rk)), (8, .int (nI r)), (9, .long (iL (Dm (A3 r) c))), (11, .long (iL (Dm (A3 rk) c)))]) hx hb dL_rank_238 hl (k := 10) rfl (n_inc _) (by decide) rfl (fun ls hl => ?_)
              refine lv_goto (tgt := 199) hx hb dL_rank_241 (by decide) ?_
              exact ih6 (k + 1) (va_up Do (A3 r) (va_up (Do (A3 r)) k ((((Dm (A3 r) k) * (Dm (A3 rk) c)) - ((Dm (A3 rk) k) * (Dm (A3 r) c))) % 1000003))) (by omega) (⟨(fun i hi hir j hj => by rw [va_up_ne _ _ (fun z => hir (hm3.2 _ _ (by omega) (by omega) z))]; exact hFF.1 i hi hir j hj), (fun j hj => by
                    rw [va_up_self]
                    by_cases e9 : j = k
                    · rw [e9, va_up_self, if_pos (Nat.lt_succ_self k)]
                    · rw [va_up_ne _ _ e9, hFF.2 j hj]
                      by_cases e8 : j < k
                      · rw [if_pos e8, if_pos (by omega)]
                      · rw [if_neg e8, if_neg (by omega)])⟩) _ _ (gtP hP [0, 1, 2] rfl) (gtD hD [0, 1, 2] (by decide) rfl) hS _ (lv_sub hl [1, 2, 3, 4, 5, 6, 7, 8, 9, 10, 0] rfl)
        · refine lv_iinc (lv' := [(6, .int (nI (pi + 1))), (0, .ref h), (1, .int (-1)), (2, .int (nI n)), (3, .ref oq), (4, .int (nI rk)), (5, .int (nI c))]) hx hb dL_rank_133 hl (k := 6) rfl (n_inc _) (by decide) rfl (fun ls hl => ?_)
          refine lv_goto (tgt := 115) hx hb dL_rank_136 (by decide) ?_
          exact ih4 (pi + 1)  (by omega) (⟨by omega, (fun i h1 h2 => if e9 : i = pi then (by rw [e9]; exact c129) else hz.2 i h1 (by omega))⟩) _ _ (gtP hP [0, 1, 2] rfl) (gtD hD [0, 1, 2] (by decide) rfl) hS _ (lv_sub hl [1, 2, 3, 4, 5, 6, 0] rfl)
  | succ n1 ih1 =>
    intro r Dv hi1 hD1 H locs hP hD hS ls hl
    refine lv_iload hx hb dL_rank_28 (lv_at hl 4 rfl) ?_
    refine lv_iload_n hx hb dL_rank_30 rfl (lv_at hl 2 rfl) ?_
    refine gN_ge (tgt := 98) hx hb dL_rank_31 (by decide) (by omega) (by omega) (fun c15 => absurd c15 (by omega)) (fun c15 => ?_)
    refine lv_iconst (v := nI 0) hx hb dL_rank_34 (by decide) ?_
    refine lv_istore (lv' := [(5, .int (nI 0)), (0, .ref h), (1, .int (-1)), (2, .int (nI n)), (3, .ref oq), (4, .int (nI r))]) hx hb dL_rank_35 hl (by decide) rfl (fun ls hl => ?_)
    suffices L16 : ∀ (n2 k : Nat) (Dw : Nat → Nat → Int), k + n2 = 8 → ((∀ i, i < r → ∀ k, k < 8 → Dw (ra i) k = bv (v i) k) ∧ ∀ j, j < k → Dw (ra r) j = bv (v r) j) → ∀ (H : Heap) (locs : List Loc), va_P (gD G) vwCl ([(h, .inr (2, [.int (nI mo), .ref q, .int (nI n)])), (q, .inl (G.2.2.1 4, N, .inr (.inr (.inr (.inr fl))))), (oq, .inl (G.2.2.1 3, n, .inr (.inr (.inr (.inr (foA n ra))))))] ++ (va_pl ((List.range n).map ra) (lF G Dw))) H → va_D A ([(h, .inr (2, [.int (nI mo), .ref q, .int (nI n)])), (q, .inl (G.2.2.1 4, N, .inr (.inr (.inr (.inr fl))))), (oq, .inl (G.2.2.1 3, n, .inr (.inr (.inr (.inr (foA n ra))))))] ++ (va_pl ((List.range n).map ra) (lF G Dw))) → va_S A s.heap H locs → ∀ ls : Array Slot, lv_has ls 14 [(0, .ref h), (1, .int (-1)), (2, .int (nI n)), (3, .ref oq), (4, .int (nI r)), (5, .int (nI k))] → W P9 l e9 rm_c_rank_n s m9 args below meth c9 H locs 51 450 Q (F0 m9 37 ls []) by
      exact L16 _ 0 Dv (Nat.add_sub_cancel' (by omega)) (⟨hD1, (fun j hj => absurd hj (Nat.not_lt_zero j))⟩) _ _ (gtP hP [0, 1, 2] rfl) (gtD hD [0, 1, 2] (by decide) rfl) hS _ (lv_sub hl [1, 2, 3, 4, 5, 0] rfl)
    intro n2
    induction n2 with
    | zero =>
      intro k Dw hi2 hD2 H locs hP hD hS ls hl
      refine lv_iload hx hb dL_rank_37 (lv_at hl 5 rfl) ?_
      refine lv_bipush (v := nI 8) hx hb dL_rank_39 (by decide) ?_
      refine gN_ge (tgt := 92) hx hb dL_rank_41 (by decide) (by omega) (by decide) (fun c17 => ?_) (fun c17 => absurd c17 (by omega))
      refine lv_iinc (lv' := [(4, .int (nI (r + 1))), (0, .ref h), (1, .int (-1)), (2, .int (nI n)), (3, .ref oq), (5, .int (nI k))]) hx hb dL_rank_92 hl (k := 4) rfl (n_inc _) (by decide) rfl (fun ls hl => ?_)
      refine lv_goto (tgt := 28) hx hb dL_rank_95 (by decide) ?_
      exact ih1 (r + 1) Dw (by omega) (fun i hi j hj => if e9 : i = r then (by rw [e9]; exact hD2.2 j (by omega)) else hD2.1 i (by omega) j hj) _ _ (gtP hP [0, 1, 2] rfl) (gtD hD [0, 1, 2] (by decide) rfl) hS _ (lv_sub hl [1, 2, 3, 4, 0] rfl)
    | succ n2 ih2 =>
      intro k Dw hi2 hD2 H locs hP hD hS ls hl
      refine lv_iload hx hb dL_rank_37 (lv_at hl 5 rfl) ?_
      refine lv_bipush (v := nI 8) hx hb dL_rank_39 (by decide) ?_
      refine gN_ge (tgt := 92) hx hb dL_rank_41 (by decide) (by omega) (by decide) (fun c18 => absurd c18 (by omega)) (fun c18 => ?_)
      refine lv_aload_n hx hb dL_rank_44 rfl (lv_at hl 3 rfl) ?_
      refine lv_iload hx hb dL_rank_45 (lv_at hl 4 rfl) ?_
      refine gR_aald hx hb hK hP 2 3 rfl rfl (by omega) (by omega) (if_pos (by omega)) dL_rank_47 ?_
      refine lv_iload hx hb dL_rank_48 (lv_at hl 5 rfl) ?_
      refine lv_iload hx hb dL_rank_50 (lv_at hl 4 rfl) ?_
      refine lv_aload_n hx hb dL_rank_52 rfl (lv_at hl 0 rfl) ?_
      refine gCFJ (ci := 2) (q0 := 0) (C := RJx4a65c) (As := []) (rest := [.int (nI r), .int (nI k), .ref (ra r)]) hE (c_L_size l G h mo (.ref q) n) (va_cwF 0 hts gL_rank_Jx4a65c_size_8abf5_f23Jx4a65c rfl rfl rfl (hE.face 0 rfl) (by decide +kernel) ⟨Nat.le_of_ble_eq_true rfl, Nat.le_of_ble_eq_true rfl⟩) (hK.1 2 _ rfl).2 ⟨hx, hb, hml, hown, hts⟩ hK hP hD hS hA (gJnQ (wr := [(q, .inl (G.2.2.1 4, N, .inr (.inr (.inr (.inr fl))))), (oq, .inl (G.2.2.1 3, n, .inr (.inr (.inr (.inr (foA n ra))))))]) [0] [1, 2] rfl rfl (by decide) (by decide) (by decide)) rfl rfl rfl hl rfl (Nat.le_of_ble_eq_true rfl) dL_rank_53 ⟨Nat.le_of_ble_eq_true rfl, Nat.le_of_ble_eq_true rfl⟩ (fun u9 H locs hu hP hD hS => ?_)
      have hP : va_P (gD G) vwCl ([(q, .inl (G.2.2.1 4, N, .inr (.inr (.inr (.inr fl))))), (oq, .inl (G.2.2.1 3, n, .inr (.inr (.inr (.inr (foA n ra)))))), (h, .inr (2, [.int (nI mo), .ref q, .int (nI n)]))] ++ (va_pl ((List.range n).map ra) (lF G Dw))) H := hP
      have hD : va_D A ([(q, .inl (G.2.2.1 4, N, .inr (.inr (.inr (.inr fl))))), (oq, .inl (G.2.2.1 3, n, .inr (.inr (.inr (.inr (foA n ra)))))), (h, .inr (2, [.int (nI mo), .ref q, .int (nI n)]))] ++ (va_pl ((List.range n).map ra) (lF G Dw))) := hD
      refine W.eq (g2 := F0 m9 58 ls [.int (nI n), .int (nI r), .int (nI k), .ref (ra r)]) rfl ?_
      refine gN_ge (tgt := 78) hx hb dL_rank_58 (by decide) (by omega) (by omega) (fun c19 => absurd c19 (by omega)) (fun c19 => ?_)
      refine lv_aload_n hx hb dL_rank_61 rfl (lv_at hl 0 rfl) ?_
      refine lv_iload hx hb dL_rank_62 (lv_at hl 4 rfl) ?_
      refine gCFJ (ci := 2) (q0 := 0) (C := RJx4a65c) (As := [.int (nI r)]) (rest := [.int (nI k), .ref (ra r)]) hE (c_L_get l G h mo q n N fl r (gI G (v r + 128)) (by omega) (by omega) (by omega) (hfl r (by omega))) (va_cwF 1 hts gL_rank_Jx4a65c_get_915e3_f31Jx4a65c rfl rfl rfl (hE.face 1 rfl) (by decide +kernel) ⟨Nat.le_of_ble_eq_true rfl, Nat.le_of_ble_eq_true rfl⟩) (hK.1 2 _ rfl).2 ⟨hx, hb, hml, hown, hts⟩ hK hP hD hS hA (gJnQ (wr := [(oq, .inl (G.2.2.1 3, n, .inr (.inr (.inr (.inr (foA n ra))))))]) [2, 0] [1] rfl rfl (by decide) (by decide) (by decide)) rfl rfl rfl hl rfl (Nat.le_of_ble_eq_true rfl) dL_rank_64 ⟨Nat.le_of_ble_eq_true rfl, Nat.le_of_ble_eq_true rfl⟩ (fun u9 H locs hu hP hD hS => ?_)
      have hP : va_P (gD G) vwCl ([(oq, .inl (G.2.2.1 3, n, .inr (.inr (.inr (.inr (foA n ra)))))), (h, .inr (2, [.int (nI mo), .ref q, .int (nI n)])), (q, .inl (G.2.2.1 4, N, .inr (.inr (.inr (.inr fl)))))] ++ (va_pl ((List.range n).map ra) (lF G Dw))) H := hP
      have hD : va_D A ([(oq, .inl (G.2.2.1 3, n, .inr (.inr (.inr (.inr (foA n ra)))))), (h, .inr (2, [.int (nI mo), .ref q, .int (nI n)])), (q, .inl (G.2.2.1 4, N, .inr (.inr (.inr (.inr fl)))))] ++ (va_pl ((List.range n).map ra) (lF G Dw))) := hD
      refine W.eq (g2 := F0 m9 69 ls [.ref (gI G (v r + 128)), .int (nI k), .ref (ra r)]) rfl ?_
      have hvr := hv r (by omega)
      refine va_castS (nm := "java/lang/Integer") hx hb hown (hts (.classLink RL 35 "java/lang/Integer") (by decide +kernel)) (hK.1 0 _ rfl).2 (gI_recv hE hS (show v r + 128 < 256 by omega)) dL_rank_69 ?_
      refine gCVK (C := RJ6) (As := []) (rest := [.int (nI k), .ref (ra r)]) hE (c_intValue l G (v r) (by omega)) (cwV 0 hts gL_rank_J6_intValue_8abf5 rfl rfl rfl (by decide +kernel) ⟨(Nat.le_of_ble_eq_true rfl), (Nat.le_of_ble_eq_true rfl)⟩) ⟨hx, hb, hml, hown, hts⟩ hK hP hD hS hA (gJnQ (wr := [(oq, .inl (G.2.2.1 3, n, .inr (.inr (.inr (.inr (foA n ra)))))), (h, .inr (2, [.int (nI mo), .ref q, .int (nI n)])), (q, .inl (G.2.2.1 4, N, .inr (.inr (.inr (.inr fl)))))]) [] [0, 1, 2] rfl rfl (by decide) (by decide) (by decide)) (gI_recv hE hS (show v r + 128 < 256 by omega)) rfl hl rfl (Nat.le_of_ble_eq_true rfl) dL_rank_72 ⟨(Nat.le_of_ble_eq_true rfl), (Nat.le_of_ble_eq_true rfl)⟩ (fun u9 H locs hu hP hD hS => ?_)
      have hP : va_P (gD G) vwCl ([(oq, .inl (G.2.2.1 3, n, .inr (.inr (.inr (.inr (foA n ra)))))), (h, .inr (2, [.int (nI mo), .ref q, .int (nI n)])), (q, .inl (G.2.2.1 4, N, .inr (.inr (.inr (.inr fl)))))] ++ (va_pl ((List.range n).map ra) (lF G Dw))) H := hP
      have hD : va_D A ([(oq, .inl (G.2.2.1 3, n, .inr (.inr (.inr (.inr (foA n ra)))))), (h, .inr (2, [.int (nI mo), .ref q, .int (nI n)])), (q, .inl (G.2.2.1 4, N, .inr (.inr (.inr (.inr fl)))))] ++ (va_pl ((List.range n).map ra) (lF G Dw))) := hD
      refine W.eq (g2 := F0 m9 75 ls [.int (nI (v r)), .int (nI k), .ref (ra r)]) rfl ?_
      refine lv_goto (tgt := 79) hx hb dL_rank_75 (by decide) ?_
      refine lv_iload hx hb dL_rank_79 (lv_at hl 5 rfl) ?_
      have hx64 : (v r) < 64 := hvr
      have hxk : (v r) / 2 ^ k < 64 := Nat.lt_of_le_of_lt (Nat.div_le_self _ _) hx64
      have hxk1 : (v r) / 2 ^ k &&& 1 < 64 := Nat.lt_of_le_of_lt Nat.and_le_left hxk
      refine lv_ishr hx hb dL_rank_81 ?_
      refine gTop (y := (nI ((v r) / 2 ^ k))) (n_shr (by omega) (by omega)) ?_
      refine lv_iconst (v := nI 1) hx hb dL_rank_82 (by decide) ?_
      refine lv_iand hx hb dL_rank_83 ?_
      refine gTop (y := (nI (((v r) / 2 ^ k) &&& 1))) (n_and _ _) ?_
      refine lv_i2l (v := iL ((((v r) / 2 ^ k) &&& 1 : Nat) : Int)) hx hb dL_rank_84 (iL_of (by omega)) ?_
      refine gL_ast (X := [(oq, .inl (G.2.2.1 3, n, .inr (.inr (.inr (.inr (foA n ra)))))), (h, .inr (2, [.int (nI mo), .ref q, .int (nI n)])), (q, .inl (G.2.2.1 4, N, .inr (.inr (.inr (.inr fl)))))]) (D := Dw) hx hb hK hP hD hS (hra9 r (by omega)) (by omega) dL_rank_85 (fun H locs hP hD hS => ?_)
      have hP : va_P (gD G) vwCl ([(oq, .inl (G.2.2.1 3, n, .inr (.inr (.inr (.inr (foA n ra)))))), (h, .inr (2, [.int (nI mo), .ref q, .int (nI n)])), (q, .inl (G.2.2.1 4, N, .inr (.inr (.inr (.inr fl)))))] ++ (va_pl ((List.range n).map ra) (lF G (va_up Dw (ra r) (va_up (Dw (ra r)) k ((((v r) / 2 ^ k) &&& 1 : Nat) : Int)))))) H := hP
      have hD : va_D A ([(oq, .inl (G.2.2.1 3, n, .inr (.inr (.inr (.inr (foA n ra)))))), (h, .inr (2, [.int (nI mo), .ref q, .int (nI n)])), (q, .inl (G.2.2.1 4, N, .inr (.inr (.inr (.inr fl)))))] ++ (va_pl ((List.range n).map ra) (lF G (va_up Dw (ra r) (va_up (Dw (ra r)) k ((((v r) / 2 ^ k) &&& 1 : Nat) : Int)))))) := hD
      refine lv_iinc (lv' := [(5, .int (nI (k + 1))), (0, .ref h), (1, .int (-1)), (2, .int (nI n)), (3, .ref oq), (4, .int (nI r))]) hx hb dL_rank_86 hl (k := 5) rfl (n_inc _) (by decide) rfl (fun ls hl => ?_)
      refine lv_goto (tgt := 37) hx hb dL_rank_89 (by decide) ?_
      exact ih2 (k + 1) (va_up Dw (ra r) (va_up (Dw (ra r)) k ((((v r) / 2 ^ k) &&& 1 : Nat) : Int))) (by omega) (⟨(fun i hi j hj => by rw [va_up_ne _ _ (fun z => absurd (hra _ _ (by omega) (by omega) z) (by omega))]; exact hD2.1 i hi j hj), (fun j hj => by
            rw [va_up_self]
            by_cases e9 : j = k
            · (rw [e9, va_up_self, bvI, (show v r = (v r) from rfl)])
            · (rw [va_up_ne _ _ e9]; exact hD2.2 j (by omega)))⟩) _ _ (gtP hP [1, 2, 0] rfl) (gtD hD [1, 2, 0] (by decide) rfl) hS _ (lv_sub hl [1, 2, 3, 4, 5, 0] rfl)

def rm_c_rank_m : Room := { frames := 3, cells := 51, slots := 450, locals := 64 }
set_option maxHeartbeats 4000000 in
set_option maxRecDepth 100000 in
/-- c_rank_m -/
theorem c_rank_m (l : Launch) (G : gG) (h : Nat) (mo : Nat) (q : Nat) (n : Nat) (N : Nat) (fl : Nat → Option Nat) (v : Nat → Nat) (mo2 : Nat) (hn : n ≤ 48) (hnN : n ≤ N) (hN : N ≤ 300) (hfl : ∀ i, i < n → fl i = some (gI G (v i + 128))) (hv : ∀ i, i < n → v i < 64) (hm : mo2 < 64) : gMet (S := Nat) l G yL_rank wsL_rank rm_c_rank_m [.ref h, .int (nI mo2)] [(h, .inr (2, [.int (nI mo), .ref q, .int (nI n)])), (q, .inl (G.2.2.1 4, N, .inr (.inr (.inr (.inr fl)))))] (fun rk => cnt (ld 1000003 (fun u => ∃ i, i < (n + 1) ∧ u = bv ((fun i => if i < n then v i else mo2) i))) 8 rk ∧ rk ≤ 50) (fun rk => some (.int (nI rk))) (fun _ => [(h, .inr (2, [.int (nI mo), .ref q, .int (nI n)])), (q, .inl (G.2.2.1 4, N, .inr (.inr (.inr (.inr fl)))))]) := by
  refine gOf (maxL := 14) (ret := (some .int)) (cc := cL_rank) (by decide) rfl (Nat.le_of_ble_eq_true rfl) ?_
  intro P9 e9 s m9 args below meth c9 A ls H locs Q hQ hx hb hml hr hown hts hlocks hin hK hP hD hS hA hE hl
  have hown : s.vm.findClass RL = some m9.cls := hown
  have hl : lv_has ls 14 [(0, .ref h), (1, .int (nI mo2))] := hl
  refine lv_aload_n hx hb dL_rank_0 rfl (lv_at hl 0 rfl) ?_
  refine gCFJ (ci := 2) (q0 := 0) (C := RJx4a65c) (As := []) (rest := []) hE (c_L_size l G h mo (.ref q) n) (va_cwF 0 hts gL_rank_Jx4a65c_size_8abf5_f23Jx4a65c rfl rfl rfl (hE.face 0 rfl) (by decide +kernel) ⟨Nat.le_of_ble_eq_true rfl, Nat.le_of_ble_eq_true rfl⟩) (hK.1 2 _ rfl).2 ⟨hx, hb, hml, hown, hts⟩ hK hP hD hS hA (gJn0 (wr := [(q, .inl (G.2.2.1 4, N, .inr (.inr (.inr (.inr fl)))))]) [0] [1] rfl rfl (by decide) (by decide) (by decide)) rfl rfl rfl hl rfl (Nat.le_of_ble_eq_true rfl) dL_rank_1 ⟨Nat.le_of_ble_eq_true rfl, Nat.le_of_ble_eq_true rfl⟩ (fun u9 H locs hu hP hD hS => ?_)
  have hP : va_P (gD G) vwCl [(q, .inl (G.2.2.1 4, N, .inr (.inr (.inr (.inr fl))))), (h, .inr (2, [.int (nI mo), .ref q, .int (nI n)]))] H := hP
  have hD : va_D A [(q, .inl (G.2.2.1 4, N, .inr (.inr (.inr (.inr fl))))), (h, .inr (2, [.int (nI mo), .ref q, .int (nI n)]))] := hD
  refine W.eq (g2 := F0 m9 6 ls [.int (nI n)]) rfl ?_
  refine lv_iload_n hx hb dL_rank_6 rfl (lv_at hl 1 rfl) ?_
  refine gN_ge0 (tgt := 14) hx hb dL_rank_7 (by decide) (by omega) ?_
  refine lv_iconst (v := nI 1) hx hb dL_rank_14 (by decide) ?_
  refine lv_iadd hx hb dL_rank_15 ?_
  refine gTop (y := (nI (n + 1))) (nI_add _ _) ?_
  refine gTop (y := nI (n + 1)) rfl ?_
  refine lv_istore_n (lv' := [(2, .int (nI (n + 1))), (0, .ref h), (1, .int (nI mo2))]) hx hb dL_rank_16 rfl hl (by decide) rfl (fun ls hl => ?_)
  refine lv_iload_n hx hb dL_rank_17 rfl (lv_at hl 0 rfl) ?_
  refine lv_bipush (v := nI 8) hx hb dL_rank_18 (by decide) ?_
  refine gL_mna (n := (n + 1)) hx hb hown hE (hts (.classLink RL 29 "[[J") (by decide +kernel)) (hts (.arrayClass .long) (by decide +kernel)) hK hP hD hS hA (by omega) (Nat.le_of_ble_eq_true rfl) (Nat.le_of_ble_eq_true rfl) dL_rank_20 (fun oq ra H hra hP hD hS => ?_)
  have hP : va_P (gD G) vwCl ([(q, .inl (G.2.2.1 4, N, .inr (.inr (.inr (.inr fl))))), (h, .inr (2, [.int (nI mo), .ref q, .int (nI n)])), (oq, .inl (G.2.2.1 3, (n + 1), .inr (.inr (.inr (.inr (foA (n + 1) ra))))))] ++ (va_pl ((List.range (n + 1)).map ra) (lF G (fun _ _ => 0)))) H := hP
  have hD : va_D A ([(q, .inl (G.2.2.1 4, N, .inr (.inr (.inr (.inr fl))))), (h, .inr (2, [.int (nI mo), .ref q, .int (nI n)])), (oq, .inl (G.2.2.1 3, (n + 1), .inr (.inr (.inr (.inr (foA (n + 1) ra))))))] ++ (va_pl ((List.range (n + 1)).map ra) (lF G (fun _ _ => 0)))) := hD
  have hra9 : ∀ i, i < (n + 1) → ra i ∈ ((List.range (n + 1)).map ra) := fun i hi => List.mem_map.mpr ⟨i, List.mem_range.mpr hi, rfl⟩
  refine lv_astore_n (lv' := [(3, .ref oq), (2, .int (nI (n + 1))), (0, .ref h), (1, .int (nI mo2))]) hx hb dL_rank_24 rfl hl (by decide) rfl (fun ls hl => ?_)
  refine lv_iconst (v := nI 0) hx hb dL_rank_25 (by decide) ?_
  refine lv_istore (lv' := [(4, .int (nI 0)), (3, .ref oq), (2, .int (nI (n + 1))), (0, .ref h), (1, .int (nI mo2))]) hx hb dL_rank_26 hl (by decide) rfl (fun ls hl => ?_)
  suffices L1 : ∀ (n1 r : Nat) (Dv : Nat → Nat → Int), r + n1 = (n + 1) → (∀ i, i < r → ∀ k, k < 8 → Dv (ra i) k = bv ((fun i => if i < n then v i else mo2) i) k) → ∀ (H : Heap) (locs : List Loc), va_P (gD G) vwCl ([(h, .inr (2, [.int (nI mo), .ref q, .int (nI n)])), (q, .inl (G.2.2.1 4, N, .inr (.inr (.inr (.inr fl))))), (oq, .inl (G.2.2.1 3, (n + 1), .inr (.inr (.inr (.inr (foA (n + 1) ra))))))] ++ (va_pl ((List.range (n + 1)).map ra) (lF G Dv))) H → va_D A ([(h, .inr (2, [.int (nI mo), .ref q, .int (nI n)])), (q, .inl (G.2.2.1 4, N, .inr (.inr (.inr (.inr fl))))), (oq, .inl (G.2.2.1 3, (n + 1), .inr (.inr (.inr (.inr (foA (n + 1) ra))))))] ++ (va_pl ((List.range (n + 1)).map ra) (lF G Dv))) → va_S A s.heap H locs → ∀ ls : Array Slot, lv_has ls 14 [(0, .ref h), (1, .int (nI mo2)), (2, .int (nI (n + 1))), (3, .ref oq), (4, .int (nI r))] → W P9 l e9 rm_c_rank_m s m9 args below meth c9 H locs 51 450 Q (F0 m9 28 ls []) by
    exact L1 _ 0 (fun _ _ => 0) (Nat.add_sub_cancel' (by omega)) (fun i hi => absurd hi (Nat.not_lt_zero i)) _ _ (gtP hP [1, 0, 2] rfl) (gtD hD [1, 0, 2] (by decide) rfl) hS _ (lv_sub hl [3, 4, 2, 1, 0] rfl)
  intro n1
  induction n1 with
  | zero =>
    intro r Dv hi1 hD1 H locs hP hD hS ls hl
    refine lv_iload hx hb dL_rank_28 (lv_at hl 4 rfl) ?_
    refine lv_iload_n hx hb dL_rank_30 rfl (lv_at hl 2 rfl) ?_
    refine gN_ge (tgt := 98) hx hb dL_rank_31 (by decide) (by omega) (by omega) (fun c2 => ?_) (fun c2 => absurd c2 (by omega))
    have er : r = (n + 1) := by omega
    have hR0 : RkI (fun u => ∃ i, i < (n + 1) ∧ u = bv ((fun i => if i < n then v i else mo2) i)) (n + 1) (fun i => Dv (ra i)) 0 0 := RkI_0' (fun i hi => ⟨bv ((fun i => if i < n then v i else mo2) i), ⟨i, hi, rfl⟩, (fun k hk => (hD1 i (by omega) k hk).symm)⟩) (fun u ⟨i, hi, e⟩ => ⟨i, hi, (fun k hk => by rw [e]; exact hD1 i (by omega) k hk)⟩) (fun i hi k hk => by show 0 ≤ Dv (ra i) k ∧ Dv (ra i) k < 1000003; rw [hD1 i (by omega) k hk]; show 0 ≤ bz _ ∧ bz _ < 1000003; generalize ((fun i => if i < n then v i else mo2) i).testBit k = b9; cases b9 <;> decide)
    refine lv_iconst (v := nI 0) hx hb dL_rank_98 (by decide) ?_
    refine lv_istore (lv' := [(4, .int (nI 0)), (0, .ref h), (1, .int (nI mo2)), (2, .int (nI (n + 1))), (3, .ref oq)]) hx hb dL_rank_99 hl (by decide) rfl (fun ls hl => ?_)
    refine lv_iconst (v := nI 0) hx hb dL_rank_101 (by decide) ?_
    refine lv_istore (lv' := [(5, .int (nI 0)), (4, .int (nI 0)), (0, .ref h), (1, .int (nI mo2)), (2, .int (nI (n + 1))), (3, .ref oq)]) hx hb dL_rank_102 hl (by decide) rfl (fun ls hl => ?_)
    suffices L3 : ∀ (n3 c : Nat) (rk : Nat) (Dm : Nat → Nat → Int) (A2 : Nat → Nat), c + n3 = 8 → (RkI (fun u => ∃ i, i < (n + 1) ∧ u = bv ((fun i => if i < n then v i else mo2) i)) (n + 1) (fun i => Dm (A2 i)) c rk) → ((∀ i, i < (n + 1) → A2 i ∈ ((List.range (n + 1)).map ra)) ∧ ∀ i j, i < (n + 1) → j < (n + 1) → A2 i = A2 j → i = j) → ∀ (H : Heap) (locs : List Loc), va_P (gD G) vwCl ([(h, .inr (2, [.int (nI mo), .ref q, .int (nI n)])), (q, .inl (G.2.2.1 4, N, .inr (.inr (.inr (.inr fl))))), (oq, .inl (G.2.2.1 3, (n + 1), .inr (.inr (.inr (.inr (foA (n + 1) A2))))))] ++ (va_pl ((List.range (n + 1)).map ra) (lF G Dm))) H → va_D A ([(h, .inr (2, [.int (nI mo), .ref q, .int (nI n)])), (q, .inl (G.2.2.1 4, N, .inr (.inr (.inr (.inr fl))))), (oq, .inl (G.2.2.1 3, (n + 1), .inr (.inr (.inr (.inr (foA (n + 1) A2))))))] ++ (va_pl ((List.range (n + 1)).map ra) (lF G Dm))) → va_S A s.heap H locs → ∀ ls : Array Slot, lv_has ls 14 [(0, .ref h), (1, .int (nI mo2)), (2, .int (nI (n + 1))), (3, .ref oq), (4, .int (nI rk)), (5, .int (nI c))] → W P9 l e9 rm_c_rank_m s m9 args below meth c9 H locs 51 450 Q (F0 m9 104 ls []) by
      exact L3 _ 0 0 Dv ra (Nat.add_sub_cancel' (by omega)) hR0 (⟨hra9, hra⟩) _ _ (gtP hP [0, 1, 2] rfl) (gtD hD [0, 1, 2] (by decide) rfl) hS _ (lv_sub hl [2, 3, 4, 5, 1, 0] rfl)
    intro n3
    induction n3 with
    | zero =>
      intro c rk Dm A2 hi3 hR hm2 H locs hP hD hS ls hl
      refine lv_iload hx hb dL_rank_104 (lv_at hl 5 rfl) ?_
      refine lv_bipush (v := nI 8) hx hb dL_rank_106 (by decide) ?_
      refine gN_ge (tgt := 259) hx hb dL_rank_108 (by decide) (by omega) (by decide) (fun c4 => ?_) (fun c4 => absurd c4 (by omega))
      refine lv_iload hx hb dL_rank_259 (lv_at hl 4 rfl) ?_
      have hrk9 := hR.1
      have ec9 : c = 8 := by omega
      exact gIret (hQ := hQ) hx hb hr hlocks hP hD hS rk ⟨(by have h9 := hR.2.2.2.1; rw [ec9] at h9; exact h9), (show rk ≤ 50 by omega)⟩ (by rfl) [0, 1] (by decide) (by rfl) (Nat.le_of_ble_eq_true rfl) (Nat.le_of_ble_eq_true rfl) dL_rank_261
    | succ n3 ih3 =>
      intro c rk Dm A2 hi3 hR hm2 H locs hP hD hS ls hl
      refine lv_iload hx hb dL_rank_104 (lv_at hl 5 rfl) ?_
      refine lv_bipush (v := nI 8) hx hb dL_rank_106 (by decide) ?_
      refine gN_ge (tgt := 259) hx hb dL_rank_108 (by decide) (by omega) (by decide) (fun c5 => absurd c5 (by omega)) (fun c5 => ?_)
      have hrk := hR.1
      refine lv_iload hx hb dL_rank_111 (lv_at hl 4 rfl) ?_
      refine lv_istore (lv' := [(6, .int (nI rk)), (0, .ref h), (1, .int (nI mo2)), (2, .int (nI (n + 1))), (3, .ref oq), (4, .int (nI rk)), (5, .int (nI c))]) hx hb dL_rank_113 hl (by decide) rfl (fun ls hl => ?_)
      suffices L6 : ∀ (n4 pi : Nat), pi + n4 = (n + 1) → (rk ≤ pi ∧ ∀ i, rk ≤ i → i < pi → Dm (A2 i) c = 0) → ∀ (H : Heap) (locs : List Loc), va_P (gD G) vwCl ([(h, .inr (2, [.int (nI mo), .ref q, .int (nI n)])), (q, .inl (G.2.2.1 4, N, .inr (.inr (.inr (.inr fl))))), (oq, .inl (G.2.2.1 3, (n + 1), .inr (.inr (.inr (.inr (foA (n + 1) A2))))))] ++ (va_pl ((List.range (n + 1)).map ra) (lF G Dm))) H → va_D A ([(h, .inr (2, [.int (nI mo), .ref q, .int (nI n)])), (q, .inl (G.2.2.1 4, N, .inr (.inr (.inr (.inr fl))))), (oq, .inl (G.2.2.1 3, (n + 1), .inr (.inr (.inr (.inr (foA (n + 1) A2))))))] ++ (va_pl ((List.range (n + 1)).map ra) (lF G Dm))) → va_S A s.heap H locs → ∀ ls : Array Slot, lv_has ls 14 [(0, .ref h), (1, .int (nI mo2)), (2, .int (nI (n + 1))), (3, .ref oq), (4, .int (nI rk)), (5, .int (nI c)), (6, .int (nI pi))] → W P9 l e9 rm_c_rank_m s m9 args below meth c9 H locs 51 450 Q (F0 m9 115 ls []) by
        exact L6 _ rk  (Nat.add_sub_cancel' (by omega)) (⟨Nat.le_refl rk, (fun i h1 h2 => absurd h2 (by omega))⟩) _ _ (gtP hP [0, 1, 2] rfl) (gtD hD [0, 1, 2] (by decide) rfl) hS _ (lv_sub hl [1, 2, 3, 4, 5, 6, 0] rfl)
      intro n4
      induction n4 with
      | zero =>
        intro pi hi4 hz H locs hP hD hS ls hl
        refine lv_iload hx hb dL_rank_115 (lv_at hl 6 rfl) ?_
        refine lv_iload_n hx hb dL_rank_117 rfl (lv_at hl 2 rfl) ?_
        refine gN_ge (tgt := 139) hx hb dL_rank_118 (by decide) (by omega) (by omega) (fun c7 => ?_) (fun c7 => absurd c7 (by omega))
        refine lv_iload hx hb dL_rank_139 (lv_at hl 6 rfl) ?_
        refine lv_iload_n hx hb dL_rank_141 rfl (lv_at hl 2 rfl) ?_
        refine gN_ne (tgt := 148) hx hb dL_rank_142 (by decide) (by omega) (by omega) (fun c142 => absurd (show pi = (n + 1) by omega) c142) (fun c142 => ?_)
        refine lv_goto (tgt := 253) hx hb dL_rank_145 (by decide) ?_
        refine lv_iinc (lv' := [(5, .int (nI (c + 1))), (0, .ref h), (1, .int (nI mo2)), (2, .int (nI (n + 1))), (3, .ref oq), (4, .int (nI rk)), (6, .int (nI pi))]) hx hb dL_rank_253 hl (k := 5) rfl (n_inc _) (by decide) rfl (fun ls hl => ?_)
        refine lv_goto (tgt := 104) hx hb dL_rank_256 (by decide) ?_
        exact ih3 (c + 1) rk Dm A2 (by omega) (RkI_skip hR (by omega) (fun i h1 h2 => hz.2 i h1 (by omega))) hm2 _ _ (gtP hP [0, 1, 2] rfl) (gtD hD [0, 1, 2] (by decide) rfl) hS _ (lv_sub hl [1, 2, 3, 4, 5, 0] rfl)
      | succ n4 ih4 =>
        intro pi hi4 hz H locs hP hD hS ls hl
        refine lv_iload hx hb dL_rank_115 (lv_at hl 6 rfl) ?_
        refine lv_iload_n hx hb dL_rank_117 rfl (lv_at hl 2 rfl) ?_
        refine gN_ge (tgt := 139) hx hb dL_rank_118 (by decide) (by omega) (by omega) (fun c8 => absurd c8 (by omega)) (fun c8 => ?_)
        refine lv_aload_n hx hb dL_rank_121 rfl (lv_at hl 3 rfl) ?_
        refine lv_iload hx hb dL_rank_122 (lv_at hl 6 rfl) ?_
        refine gR_aald hx hb hK hP 2 3 rfl rfl (by omega) (by omega) (if_pos (by omega)) dL_rank_124 ?_
        refine lv_iload hx hb dL_rank_125 (lv_at hl 5 rfl) ?_
        refine gL_ald (X := [(h, .inr (2, [.int (nI mo), .ref q, .int (nI n)])), (q, .inl (G.2.2.1 4, N, .inr (.inr (.inr (.inr fl))))), (oq, .inl (G.2.2.1 3, (n + 1), .inr (.inr (.inr (.inr (foA (n + 1) A2))))))]) (D := Dm) hx hb hK hP (hm2.1 pi (by omega)) (by omega) dL_rank_127 ?_
        refine lv_lconst (v := iL 0) hx hb dL_rank_128 rfl ?_
        have hbd : 0 ≤ (Dm (A2 pi) c) ∧ (Dm (A2 pi) c) < 1000003 := hR.2.2.2.2.2 pi (by omega) c (by omega)
        have hzb : zl (Dm (A2 pi) c) := ⟨by have := hbd.1; omega, by have := hbd.2; omega⟩
        refine gL_ne0 (tgt := 139) hx hb dL_rank_129 dL_rank_130 (by decide) hzb (fun c129 => ?_) (fun c129 => ?_)
        · refine lv_iload hx hb dL_rank_139 (lv_at hl 6 rfl) ?_
          refine lv_iload_n hx hb dL_rank_141 rfl (lv_at hl 2 rfl) ?_
          refine gN_ne (tgt := 148) hx hb dL_rank_142 (by decide) (by omega) (by omega) (fun c142 => ?_) (fun c142 => absurd c142 (by omega))
          refine lv_aload_n hx hb dL_rank_148 rfl (lv_at hl 3 rfl) ?_
          refine lv_iload hx hb dL_rank_149 (lv_at hl 6 rfl) ?_
          refine gR_aald hx hb hK hP 2 3 rfl rfl (by omega) (by omega) (if_pos (by omega)) dL_rank_151 ?_
          refine lv_astore (lv' := [(7, .ref (A2 pi)), (0, .ref h), (1, .int (nI mo2)), (2, .int (nI (n + 1))), (3, .ref oq), (4, .int (nI rk)), (5, .int (nI c)), (6, .int (nI pi))]) hx hb dL_rank_152 hl (by decide) rfl (fun ls hl => ?_)
          refine lv_aload_n hx hb dL_rank_154 rfl (lv_at hl 4 rfl) ?_
          refine lv_iload hx hb dL_rank_155 (lv_at hl 7 rfl) ?_
          refine lv_aload_n hx hb dL_rank_157 rfl (lv_at hl 4 rfl) ?_
          refine lv_iload hx hb dL_rank_158 (lv_at hl 5 rfl) ?_
          refine gR_aald hx hb hK hP 2 3 rfl rfl (by omega) (by omega) (if_pos (by omega)) dL_rank_160 ?_
          refine gR_ast (X := [(h, .inr (2, [.int (nI mo), .ref q, .int (nI n)])), (q, .inl (G.2.2.1 4, N, .inr (.inr (.inr (.inr fl))))), (oq, .inl (G.2.2.1 3, (n + 1), .inr (.inr (.inr (.inr (foA (n + 1) A2))))))]) (q0 := 2) (f := foA (n + 1) A2) (x := (8, .inr (.inl (lA (Dm (A2 rk)))))) hx hb hE hK hP hD hS 3 0 rfl hE.2.1.1.2.1 (hK.2 2 _ rfl).2 rfl (hm2.1 rk (by omega)) rfl (by omega) (by omega) dL_rank_161 (fun H locs hP hD hS => ?_)
          have hfU := foU (n := (n + 1)) (p := pi) (x := (A2 rk)) (A := A2) (by omega)
          have hP : va_P (gD G) vwCl ([(h, .inr (2, [.int (nI mo), .ref q, .int (nI n)])), (q, .inl (G.2.2.1 4, N, .inr (.inr (.inr (.inr fl))))), (oq, .inl (G.2.2.1 3, (n + 1), .inr (.inr (.inr (.inr (va_up (foA (n + 1) A2) pi (some (A2 rk))))))))] ++ (va_pl ((List.range (n + 1)).map ra) (lF G Dm))) H := hP
          have hD : va_D A ([(h, .inr (2, [.int (nI mo), .ref q, .int (nI n)])), (q, .inl (G.2.2.1 4, N, .inr (.inr (.inr (.inr fl))))), (oq, .inl (G.2.2.1 3, (n + 1), .inr (.inr (.inr (.inr (va_up (foA (n + 1) A2) pi (some (A2 rk))))))))] ++ (va_pl ((List.range (n + 1)).map ra) (lF G Dm))) := hD
          rw [hfU] at hP hD
          have hP : va_P (gD G) vwCl ([(h, .inr (2, [.int (nI mo), .ref q, .int (nI n)])), (q, .inl (G.2.2.1 4, N, .inr (.inr (.inr (.inr fl))))), (oq, .inl (G.2.2.1 3, (n + 1), .inr (.inr (.inr (.inr (foA (n + 1) (va_up A2 pi (A2 rk))))))))] ++ (va_pl ((List.range (n + 1)).map ra) (lF G Dm))) H := hP
          have hD : va_D A ([(h, .inr (2, [.int (nI mo), .ref q, .int (nI n)])), (q, .inl (G.2.2.1 4, N, .inr (.inr (.inr (.inr fl))))), (oq, .inl (G.2.2.1 3, (n + 1), .inr (.inr (.inr (.inr (foA (n + 1) (va_up A2 pi (A2 rk))))))))] ++ (va_pl ((List.range (n + 1)).map ra) (lF G Dm))) := hD
          refine lv_aload_n hx hb dL_rank_162 rfl (lv_at hl 4 rfl) ?_
          refine lv_iload hx hb dL_rank_163 (lv_at hl 5 rfl) ?_
          refine lv_aload hx hb dL_rank_165 (lv_at hl 0 rfl) ?_
          refine gR_ast (X := [(h, .inr (2, [.int (nI mo), .ref q, .int (nI n)])), (q, .inl (G.2.2.1 4, N, .inr (.inr (.inr (.inr fl))))), (oq, .inl (G.2.2.1 3, (n + 1), .inr (.inr (.inr (.inr (foA (n + 1) (va_up A2 pi (A2 rk))))))))]) (q0 := 2) (f := foA (n + 1) (va_up A2 pi (A2 rk))) (x := (8, .inr (.inl (lA (Dm (A2 pi)))))) hx hb hE hK hP hD hS 3 0 rfl hE.2.1.1.2.1 (hK.2 2 _ rfl).2 rfl (hm2.1 pi (by omega)) rfl (by omega) (by omega) dL_rank_167 (fun H locs hP hD hS => ?_)
          have hfU := foU (n := (n + 1)) (p := rk) (x := (A2 pi)) (A := (va_up A2 pi (A2 rk))) (by omega)
          have hP : va_P (gD G) vwCl ([(h, .inr (2, [.int (nI mo), .ref q, .int (nI n)])), (q, .inl (G.2.2.1 4, N, .inr (.inr (.inr (.inr fl))))), (oq, .inl (G.2.2.1 3, (n + 1), .inr (.inr (.inr (.inr (va_up (foA (n + 1) (va_up A2 pi (A2 rk))) rk (some (A2 pi))))))))] ++ (va_pl ((List.range (n + 1)).map ra) (lF G Dm))) H := hP
          have hD : va_D A ([(h, .inr (2, [.int (nI mo), .ref q, .int (nI n)])), (q, .inl (G.2.2.1 4, N, .inr (.inr (.inr (.inr fl))))), (oq, .inl (G.2.2.1 3, (n + 1), .inr (.inr (.inr (.inr (va_up (foA (n + 1) (va_up A2 pi (A2 rk))) rk (some (A2 pi))))))))] ++ (va_pl ((List.range (n + 1)).map ra) (lF G Dm))) := hD
          rw [hfU] at hP hD
          have hP : va_P (gD G) vwCl ([(h, .inr (2, [.int (nI mo), .ref q, .int (nI n)])), (q, .inl (G.2.2.1 4, N, .inr (.inr (.inr (.inr fl))))), (oq, .inl (G.2.2.1 3, (n + 1), .inr (.inr (.inr (.inr (foA (n + 1) (va_up (va_up A2 pi (A2 rk)) rk (A2 pi))))))))] ++ (va_pl ((List.range (n + 1)).map ra) (lF G Dm))) H := hP
          have hD : va_D A ([(h, .inr (2, [.int (nI mo), .ref q, .int (nI n)])), (q, .inl (G.2.2.1 4, N, .inr (.inr (.inr (.inr fl))))), (oq, .inl (G.2.2.1 3, (n + 1), .inr (.inr (.inr (.inr (foA (n + 1) (va_up (va_up A2 pi (A2 rk)) rk (A2 pi))))))))] ++ (va_pl ((List.range (n + 1)).map ra) (lF G Dm))) := hD
          obtain ⟨A3, hA3⟩ : ∃ z, z = (va_up (va_up A2 pi (A2 rk)) rk (A2 pi)) := ⟨_, rfl⟩
          rw [← hA3] at hP hD
          have hP : va_P (gD G) vwCl ([(h, .inr (2, [.int (nI mo), .ref q, .int (nI n)])), (q, .inl (G.2.2.1 4, N, .inr (.inr (.inr (.inr fl))))), (oq, .inl (G.2.2.1 3, (n + 1), .inr (.inr (.inr (.inr (foA (n + 1) A3))))))] ++ (va_pl ((List.range (n + 1)).map ra) (lF G Dm))) H := hP
          have hD : va_D A ([(h, .inr (2, [.int (nI mo), .ref q, .int (nI n)])), (q, .inl (G.2.2.1 4, N, .inr (.inr (.inr (.inr fl))))), (oq, .inl (G.2.2.1 3, (n + 1), .inr (.inr (.inr (.inr (foA (n + 1) A3))))))] ++ (va_pl ((List.range (n + 1)).map ra) (lF G Dm))) := hD
          have hk1 : A3 rk = A2 pi := by rw [hA3, va_up_self]
          have hk2 : A3 pi = A2 rk := by
              rw [hA3]
              by_cases e9 : pi = rk
              · rw [e9, va_up_self]
              · rw [va_up_ne _ _ e9, va_up_self]
          have hk3 : ∀ i, i ≠ rk → i ≠ pi → A3 i = A2 i := fun i h1 h2 => by rw [hA3, va_up_ne _ _ h1, va_up_ne _ _ h2]
          have hR3 : RkI (fun u => ∃ i, i < (n + 1) ∧ u = bv ((fun i => if i < n then v i else mo2) i)) (n + 1) (fun i => Dm (A3 i)) c rk := RkI_swap hR hz.1 (by omega) (congrArg Dm hk1) (congrArg Dm hk2) (fun i h1 h2 => congrArg Dm (hk3 i h1 h2))
          have hm3 : (∀ i, i < (n + 1) → A3 i ∈ ((List.range (n + 1)).map ra)) ∧ ∀ i j, i < (n + 1) → j < (n + 1) → A3 i = A3 j → i = j := swap_ok hm2.1 hm2.2 hk1 hk2 hk3 (by omega) (by omega)
          have hnz : Dm (A3 rk) c ≠ 0 := by rw [hk1]; exact c129
          rw [← hk1] at hl
          have hl : lv_has ls 14 [(7, .ref (A3 rk)), (0, .ref h), (1, .int (nI mo2)), (2, .int (nI (n + 1))), (3, .ref oq), (4, .int (nI rk)), (5, .int (nI c)), (6, .int (nI pi))] := hl
          refine lv_iload hx hb dL_rank_168 (lv_at hl 5 rfl) ?_
          refine lv_iconst (v := nI 1) hx hb dL_rank_170 (by decide) ?_
          refine lv_iadd hx hb dL_rank_171 ?_
          refine gTop (y := (nI (rk + 1))) (nI_add _ _) ?_
          refine lv_istore (lv' := [(8, .int (nI (rk + 1))), (7, .ref (A3 rk)), (0, .ref h), (1, .int (nI mo2)), (2, .int (nI (n + 1))), (3, .ref oq), (4, .int (nI rk)), (5, .int (nI c)), (6, .int (nI pi))]) hx hb dL_rank_172 hl (by decide) rfl (fun ls hl => ?_)
          suffices L9 : ∀ (n5 r : Nat) (Dn : Nat → Nat → Int), r + n5 = (n + 1) → (rk + 1 ≤ r ∧ (∀ i, i < (n + 1) → (i ≤ rk ∨ r ≤ i) → ∀ k, k < 8 → Dn (A3 i) k = Dm (A3 i) k) ∧ ∀ i, rk < i → i < r → ∀ k, k < 8 → Dn (A3 i) k = (Dm (A3 i) k * Dm (A3 rk) c - Dm (A3 rk) k * Dm (A3 i) c) % 1000003) → ∀ (H : Heap) (locs : List Loc), va_P (gD G) vwCl ([(h, .inr (2, [.int (nI mo), .ref q, .int (nI n)])), (q, .inl (G.2.2.1 4, N, .inr (.inr (.inr (.inr fl))))), (oq, .inl (G.2.2.1 3, (n + 1), .inr (.inr (.inr (.inr (foA (n + 1) A3))))))] ++ (va_pl ((List.range (n + 1)).map ra) (lF G Dn))) H → va_D A ([(h, .inr (2, [.int (nI mo), .ref q, .int (nI n)])), (q, .inl (G.2.2.1 4, N, .inr (.inr (.inr (.inr fl))))), (oq, .inl (G.2.2.1 3, (n + 1), .inr (.inr (.inr (.inr (foA (n + 1) A3))))))] ++ (va_pl ((List.range (n + 1)).map ra) (lF G Dn))) → va_S A s.heap H locs → ∀ ls : Array Slot, lv_has ls 14 [(0, .ref h), (1, .int (nI mo2)), (2, .int (nI (n + 1))), (3, .ref oq), (4, .int (nI rk)), (5, .int (nI c)), (7, .ref (A3 rk)), (8, .int (nI r))] → W P9 l e9 rm_c_rank_m s m9 args below meth c9 H locs 51 450 Q (F0 m9 174 ls []) by
            exact L9 _ (rk + 1) Dm (Nat.add_sub_cancel' (by omega)) (⟨Nat.le_refl _, (fun i _ _ k _ => rfl), (fun i h1 h2 => absurd h2 (by omega))⟩) _ _ (gtP hP [0, 1, 2] rfl) (gtD hD [0, 1, 2] (by decide) rfl) hS _ (lv_sub hl [2, 3, 4, 5, 6, 7, 1, 0] rfl)
          intro n5
          induction n5 with
          | zero =>
            intro r Dn hi5 hEE H locs hP hD hS ls hl
            refine lv_iload hx hb dL_rank_174 (lv_at hl 7 rfl) ?_
            refine lv_iload_n hx hb dL_rank_176 rfl (lv_at hl 2 rfl) ?_
            refine gN_ge (tgt := 250) hx hb dL_rank_177 (by decide) (by omega) (by omega) (fun c10 => ?_) (fun c10 => absurd c10 (by omega))
            refine lv_iinc (lv' := [(4, .int (nI (rk + 1))), (0, .ref h), (1, .int (nI mo2)), (2, .int (nI (n + 1))), (3, .ref oq), (5, .int (nI c)), (7, .ref (A3 rk)), (8, .int (nI r))]) hx hb dL_rank_250 hl (k := 4) rfl (n_inc _) (by decide) rfl (fun ls hl => ?_)
            refine lv_iinc (lv' := [(5, .int (nI (c + 1))), (4, .int (nI (rk + 1))), (0, .ref h), (1, .int (nI mo2)), (2, .int (nI (n + 1))), (3, .ref oq), (7, .ref (A3 rk)), (8, .int (nI r))]) hx hb dL_rank_253 hl (k := 5) rfl (n_inc _) (by decide) rfl (fun ls hl => ?_)
            refine lv_goto (tgt := 104) hx hb dL_rank_256 (by decide) ?_
            exact ih3 (c + 1) (rk + 1) Dn A3 (by omega) (RkI_piv hR3 (by omega) (by omega) hnz (fun i hi k hk => hEE.2.1 i (by omega) (Or.inl hi) k hk) (fun i hi hin k hk => hEE.2.2 i hi (by omega) k hk)) hm3 _ _ (gtP hP [0, 1, 2] rfl) (gtD hD [0, 1, 2] (by decide) rfl) hS _ (lv_sub hl [2, 3, 4, 5, 1, 0] rfl)
          | succ n5 ih5 =>
            intro r Dn hi5 hEE H locs hP hD hS ls hl
            refine lv_iload hx hb dL_rank_174 (lv_at hl 7 rfl) ?_
            refine lv_iload_n hx hb dL_rank_176 rfl (lv_at hl 2 rfl) ?_
            refine gN_ge (tgt := 250) hx hb dL_rank_177 (by decide) (by omega) (by omega) (fun c11 => absurd c11 (by omega)) (fun c11 => ?_)
            refine lv_aload_n hx hb dL_rank_180 rfl (lv_at hl 3 rfl) ?_
            refine lv_iload hx hb dL_rank_181 (lv_at hl 7 rfl) ?_
            refine gR_aald hx hb hK hP 2 3 rfl rfl (by omega) (by omega) (if_pos (by omega)) dL_rank_183 ?_
            refine lv_iload hx hb dL_rank_184 (lv_at hl 5 rfl) ?_
            refine gL_ald (X := [(h, .inr (2, [.int (nI mo), .ref q, .int (nI n)])), (q, .inl (G.2.2.1 4, N, .inr (.inr (.inr (.inr fl))))), (oq, .inl (G.2.2.1 3, (n + 1), .inr (.inr (.inr (.inr (foA (n + 1) A3))))))]) (D := Dn) hx hb hK hP (hm3.1 r (by omega)) (by omega) dL_rank_186 ?_
            refine gTopL (y := iL (Dm (A3 r) c)) (congrArg iL (hEE.2.1 r (by omega) (Or.inr (Nat.le_refl r)) c (by omega))) ?_
            refine lv_lstore (lv' := [(9, .long (iL (Dm (A3 r) c))), (0, .ref h), (1, .int (nI mo2)), (2, .int (nI (n + 1))), (3, .ref oq), (4, .int (nI rk)), (5, .int (nI c)), (7, .ref (A3 rk)), (8, .int (nI r))]) hx hb dL_rank_187 hl (by decide) rfl (fun ls hl => ?_)
            refine lv_aload hx hb dL_rank_189 (lv_at hl 7 rfl) ?_
            refine lv_iload hx hb dL_rank_191 (lv_at hl 6 rfl) ?_
            refine gL_ald (X := [(h, .inr (2, [.int (nI mo), .ref q, .int (nI n)])), (q, .inl (G.2.2.1 4, N, .inr (.inr (.inr (.inr fl))))), (oq, .inl (G.2.2.1 3, (n + 1), .inr (.inr (.inr (.inr (foA (n + 1) A3))))))]) (D := Dn) hx hb hK hP (hm3.1 rk (by omega)) (by omega) dL_rank_193 ?_
            refine gTopL (y := iL (Dm (A3 rk) c)) (congrArg iL (hEE.2.1 rk (by omega) (Or.inl (Nat.le_refl rk)) c (by omega))) ?_
            refine lv_lstore (lv' := [(11, .long (iL (Dm (A3 rk) c))), (9, .long (iL (Dm (A3 r) c))), (0, .ref h), (1, .int (nI mo2)), (2, .int (nI (n + 1))), (3, .ref oq), (4, .int (nI rk)), (5, .int (nI c)), (7, .ref (A3 rk)), (8, .int (nI r))]) hx hb dL_rank_194 hl (by decide) rfl (fun ls hl => ?_)
            refine lv_iconst (v := nI 0) hx hb dL_rank_196 (by decide) ?_
            refine lv_istore (lv' := [(13, .int (nI 0)), (11, .long (iL (Dm (A3 rk) c))), (9, .long (iL (Dm (A3 r) c))), (0, .ref h), (1, .int (nI mo2)), (2, .int (nI (n + 1))), (3, .ref oq), (4, .int (nI rk)), (5, .int (nI c)), (7, .ref (A3 rk)), (8, .int (nI r))]) hx hb dL_rank_197 hl (by decide) rfl (fun ls hl => ?_)
            suffices L12 : ∀ (n6 k : Nat) (Do : Nat → Nat → Int), k + n6 = 8 → ((∀ i, i < (n + 1) → i ≠ r → ∀ k, k < 8 → Do (A3 i) k = Dn (A3 i) k) ∧ ∀ j, j < 8 → Do (A3 r) j = if j < k then (Dm (A3 r) j * Dm (A3 rk) c - Dm (A3 rk) j * Dm (A3 r) c) % 1000003 else Dm (A3 r) j) → ∀ (H : Heap) (locs : List Loc), va_P (gD G) vwCl ([(h, .inr (2, [.int (nI mo), .ref q, .int (nI n)])), (q, .inl (G.2.2.1 4, N, .inr (.inr (.inr (.inr fl))))), (oq, .inl (G.2.2.1 3, (n + 1), .inr (.inr (.inr (.inr (foA (n + 1) A3))))))] ++ (va_pl ((List.range (n + 1)).map ra) (lF G Do))) H → va_D A ([(h, .inr (2, [.int (nI mo), .ref q, .int (nI n)])), (q, .inl (G.2.2.1 4, N, .inr (.inr (.inr (.inr fl))))), (oq, .inl (G.2.2.1 3, (n + 1), .inr (.inr (.inr (.inr (foA (n + 1) A3))))))] ++ (va_pl ((List.range (n + 1)).map ra) (lF G Do))) → va_S A s.heap H locs → ∀ ls : Array Slot, lv_has ls 14 [(0, .ref h), (1, .int (nI mo2)), (2, .int (nI (n + 1))), (3, .ref oq), (4, .int (nI rk)), (5, .int (nI c)), (7, .ref (A3 rk)), (8, .int (nI r)), (9, .long (iL (Dm (A3 r) c))), (11, .long (iL (Dm (A3 rk) c))), (13, .int (nI k))] → W P9 l e9 rm_c_rank_m s m9 args below meth c9 H locs 51 450 Q (F0 m9 199 ls []) by
              exact L12 _ 0 Dn (Nat.add_sub_cancel' (by omega)) (⟨(fun i _ _ k _ => rfl), (fun j hj => (hEE.2.1 r (by omega) (Or.inr (Nat.le_refl r)) j hj).trans (if_neg (Nat.not_lt_zero j)).symm)⟩) _ _ (gtP hP [0, 1, 2] rfl) (gtD hD [0, 1, 2] (by decide) rfl) hS _ (lv_sub hl [3, 4, 5, 6, 7, 8, 9, 10, 2, 1, 0] rfl)
            intro n6
            induction n6 with
            | zero =>
              intro k Do hi6 hFF H locs hP hD hS ls hl
              refine lv_iload hx hb dL_rank_199 (lv_at hl 10 rfl) ?_
              refine lv_bipush (v := nI 8) hx hb dL_rank_201 (by decide) ?_
              refine gN_ge (tgt := 244) hx hb dL_rank_203 (by decide) (by omega) (by decide) (fun c13 => ?_) (fun c13 => absurd c13 (by omega))
              refine lv_iinc (lv' := [(8, .int (nI (r + 1))), (0, .ref h), (1, .int (nI mo2)), (2, .int (nI (n + 1))), (3, .ref oq), (4, .int (nI rk)), (5, .int (nI c)), (7, .ref (A3 rk)), (9, .long (iL (Dm (A3 r) c))), (11, .long (iL (Dm (A3 rk) c))), (13, .int (nI k))]) hx hb dL_rank_244 hl (k := 7) rfl (n_inc _) (by decide) rfl (fun ls hl => ?_)
              refine lv_goto (tgt := 174) hx hb dL_rank_247 (by decide) ?_
              exact ih5 (r + 1) Do (by omega) (⟨by omega, (fun i hi h9 k hk => (hFF.1 i hi (by omega) k hk).trans (hEE.2.1 i hi (by omega) k hk)), (fun i h1 h2 k2 hk => if e9 : i = r then (by rw [e9, hFF.2 k2 hk, if_pos (by omega)]) else (hFF.1 i (by omega) e9 k2 hk).trans (hEE.2.2 i h1 (by omega) k2 hk))⟩) _ _ (gtP hP [0, 1, 2] rfl) (gtD hD [0, 1, 2] (by decide) rfl) hS _ (lv_sub hl [1, 2, 3, 4, 5, 6, 7, 0] rfl)
            | succ n6 ih6 =>
              intro k Do hi6 hFF H locs hP hD hS ls hl
              refine lv_iload hx hb dL_rank_199 (lv_at hl 10 rfl) ?_
              refine lv_bipush (v := nI 8) hx hb dL_rank_201 (by decide) ?_
              refine gN_ge (tgt := 244) hx hb dL_rank_203 (by decide) (by omega) (by decide) (fun c14 => absurd c14 (by omega)) (fun c14 => ?_)
              refine lv_aload_n hx hb dL_rank_206 rfl (lv_at hl 3 rfl) ?_
              refine lv_iload hx hb dL_rank_207 (lv_at hl 7 rfl) ?_
              refine gR_aald hx hb hK hP 2 3 rfl rfl (by omega) (by omega) (if_pos (by omega)) dL_rank_209 ?_
              refine lv_iload hx hb dL_rank_210 (lv_at hl 10 rfl) ?_
              refine lv_aload_n hx hb dL_rank_212 rfl (lv_at hl 3 rfl) ?_
              refine lv_iload hx hb dL_rank_213 (lv_at hl 7 rfl) ?_
              refine gR_aald hx hb hK hP 2 3 rfl rfl (by omega) (by omega) (if_pos (by omega)) dL_rank_215 ?_
              refine lv_iload hx hb dL_rank_216 (lv_at hl 10 rfl) ?_
              refine gL_ald (X := [(h, .inr (2, [.int (nI mo), .ref q, .int (nI n)])), (q, .inl (G.2.2.1 4, N, .inr (.inr (.inr (.inr fl))))), (oq, .inl (G.2.2.1 3, (n + 1), .inr (.inr (.inr (.inr (foA (n + 1) A3))))))]) (D := Do) hx hb hK hP (hm3.1 r (by omega)) (by omega) dL_rank_218 ?_
              refine gTopL (y := iL (Dm (A3 r) k)) (congrArg iL ((hFF.2 k (by omega)).trans (if_neg (Nat.lt_irrefl k)))) ?_
              refine lv_lload hx hb dL_rank_219 (lv_at hl 9 rfl) ?_
              refine lv_lmul hx hb dL_rank_221 ?_
              refine gTopL (y := iL ((Dm (A3 r) k) * (Dm (A3 rk) c))) (iL_mul _ _) ?_
              refine lv_aload hx hb dL_rank_222 (lv_at hl 6 rfl) ?_
              refine lv_iload hx hb dL_rank_224 (lv_at hl 10 rfl) ?_
              refine gL_ald (X := [(h, .inr (2, [.int (nI mo), .ref q, .int (nI n)])), (q, .inl (G.2.2.1 4, N, .inr (.inr (.inr (.inr fl))))), (oq, .inl (G.2.2.1 3, (n + 1), .inr (.inr (.inr (.inr (foA (n + 1) A3))))))]) (D := Do) hx hb hK hP (hm3.1 rk (by omega)) (by omega) dL_rank_226 ?_
              refine gTopL (y := iL (Dm (A3 rk) k)) (congrArg iL ((hFF.1 rk (by omega) (by omega) k (by omega)).trans (hEE.2.1 rk (by omega) (Or.inl (Nat.le_refl rk)) k (by omega)))) ?_
              refine lv_lload hx hb dL_rank_227 (lv_at hl 8 rfl) ?_
              refine lv_lmul hx hb dL_rank_229 ?_
              refine gTopL (y := iL ((Dm (A3 rk) k) * (Dm (A3 r) c))) (iL_mul _ _) ?_
              refine lv_lsub hx hb dL_rank_230 ?_
              refine gTopL (y := iL (((Dm (A3 r) k) * (Dm (A3 rk) c)) - ((Dm (A3 rk) k) * (Dm (A3 r) c)))) (iL_sub _ _) ?_
              refine lv_ldc2 (v := 1000003) hx hb hown (hts (.constantLong RL 40 (1000003)) (by decide +kernel)) dL_rank_231 ?_
              refine gTopL (y := iL 1000003) rfl ?_
              have hb1 := mulq (x := Dm (A3 r) k) (y := Dm (A3 rk) c) (hR3.2.2.2.2.2 r (by omega) k (by omega)) (hR3.2.2.2.2.2 rk (by omega) c (by omega))
              have hb2 := mulq (x := Dm (A3 rk) k) (y := Dm (A3 r) c) (hR3.2.2.2.2.2 rk (by omega) k (by omega)) (hR3.2.2.2.2.2 r (by omega) c (by omega))
              have hzb2 : zl (((Dm (A3 r) k) * (Dm (A3 rk) c)) - ((Dm (A3 rk) k) * (Dm (A3 r) c))) := ⟨by have := hb1.1; have := hb2.2; omega, by have := hb1.2; have := hb2.1; omega⟩
              refine gL_fm (z := (((Dm (A3 r) k) * (Dm (A3 rk) c)) - ((Dm (A3 rk) k) * (Dm (A3 r) c)))) hx hb (hml.trans hl.1.symm) hown (hts (.methodLink RL 42 yJ9_floorMod_f86c9) (by decide +kernel)) (hts (.static yJ9_floorMod_f86c9) (by decide +kernel)) (hts (.initialized RJ9) (by decide +kernel)) (hts (.code yJ9_floorMod_f86c9 cJ9_floorMod_f86c9 6 (some .long)) (by decide +kernel)) (Nat.le_of_ble_eq_true rfl) (Nat.le_of_ble_eq_true rfl) (Nat.le_of_ble_eq_true rfl) (Nat.le_of_ble_eq_true rfl) hzb2 dL_rank_234 ?_
              refine gL_ast (X := [(h, .inr (2, [.int (nI mo), .ref q, .int (nI n)])), (q, .inl (G.2.2.1 4, N, .inr (.inr (.inr (.inr fl))))), (oq, .inl (G.2.2.1 3, (n + 1), .inr (.inr (.inr (.inr (foA (n + 1) A3))))))]) (D := Do) hx hb hK hP hD hS (hm3.1 r (by omega)) (by omega) dL_rank_237 (fun H locs hP hD hS => ?_)
              have hP : va_P (gD G) vwCl ([(h, .inr (2, [.int (nI mo), .ref q, .int (nI n)])), (q, .inl (G.2.2.1 4, N, .inr (.inr (.inr (.inr fl))))), (oq, .inl (G.2.2.1 3, (n + 1), .inr (.inr (.inr (.inr (foA (n + 1) A3))))))] ++ (va_pl ((List.range (n + 1)).map ra) (lF G (va_up Do (A3 r) (va_up (Do (A3 r)) k ((((Dm (A3 r) k) * (Dm (A3 rk) c)) - ((Dm (A3 rk) k) * (Dm (A3 r) c))) % 1000003)))))) H := hP
              have hD : va_D A ([(h, .inr (2, [.int (nI mo), .ref q, .int (nI n)])), (q, .inl (G.2.2.1 4, N, .inr (.inr (.inr (.inr fl))))), (oq, .inl (G.2.2.1 3, (n + 1), .inr (.inr (.inr (.inr (foA (n + 1) A3))))))] ++ (va_pl ((List.range (n + 1)).map ra) (lF G (va_up Do (A3 r) (va_up (Do (A3 r)) k ((((Dm (A3 r) k) * (Dm (A3 rk) c)) - ((Dm (A3 rk) k) * (Dm (A3 r) c))) % 1000003)))))) := hD
              refine lv_iinc (lv' := [(13, .int (nI (k + 1))), (0, .ref h), (1, .int (nI mo2)), (2, .int (nI (n + 1))), (3, .ref oq), (4, .int (nI rk)), (5, .int (nI c)), (7, .ref (A3 rk)), (8, .int (nI r)), (9, .long (iL (Dm (A3 r) c))), (11, .long (iL (Dm (A3 rk) c)))]) hx hb dL_rank_238 hl (k := 10) rfl (n_inc _) (by decide) rfl (fun ls hl => ?_)
              refine lv_goto (tgt := 199) hx hb dL_rank_241 (by decide) ?_
              exact ih6 (k + 1) (va_up Do (A3 r) (va_up (Do (A3 r)) k ((((Dm (A3 r) k) * (Dm (A3 rk) c)) - ((Dm (A3 rk) k) * (Dm (A3 r) c))) % 1000003))) (by omega) (⟨(fun i hi hir j hj => by rw [va_up_ne _ _ (fun z => hir (hm3.2 _ _ (by omega) (by omega) z))]; exact hFF.1 i hi hir j hj), (fun j hj => by
                    rw [va_up_self]
                    by_cases e9 : j = k
                    · rw [e9, va_up_self, if_pos (Nat.lt_succ_self k)]
                    · rw [va_up_ne _ _ e9, hFF.2 j hj]
                      by_cases e8 : j < k
                      · rw [if_pos e8, if_pos (by omega)]
                      · rw [if_neg e8, if_neg (by omega)])⟩) _ _ (gtP hP [0, 1, 2] rfl) (gtD hD [0, 1, 2] (by decide) rfl) hS _ (lv_sub hl [1, 2, 3, 4, 5, 6, 7, 8, 9, 10, 0] rfl)
        · refine lv_iinc (lv' := [(6, .int (nI (pi + 1))), (0, .ref h), (1, .int (nI mo2)), (2, .int (nI (n + 1))), (3, .ref oq), (4, .int (nI rk)), (5, .int (nI c))]) hx hb dL_rank_133 hl (k := 6) rfl (n_inc _) (by decide) rfl (fun ls hl => ?_)
          refine lv_goto (tgt := 115) hx hb dL_rank_136 (by decide) ?_
          exact ih4 (pi + 1)  (by omega) (⟨by omega, (fun i h1 h2 => if e9 : i = pi then (by rw [e9]; exact c129) else hz.2 i h1 (by omega))⟩) _ _ (gtP hP [0, 1, 2] rfl) (gtD hD [0, 1, 2] (by decide) rfl) hS _ (lv_sub hl [1, 2, 3, 4, 5, 6, 0] rfl)
  | succ n1 ih1 =>
    intro r Dv hi1 hD1 H locs hP hD hS ls hl
    refine lv_iload hx hb dL_rank_28 (lv_at hl 4 rfl) ?_
    refine lv_iload_n hx hb dL_rank_30 rfl (lv_at hl 2 rfl) ?_
    refine gN_ge (tgt := 98) hx hb dL_rank_31 (by decide) (by omega) (by omega) (fun c15 => absurd c15 (by omega)) (fun c15 => ?_)
    refine lv_iconst (v := nI 0) hx hb dL_rank_34 (by decide) ?_
    refine lv_istore (lv' := [(5, .int (nI 0)), (0, .ref h), (1, .int (nI mo2)), (2, .int (nI (n + 1))), (3, .ref oq), (4, .int (nI r))]) hx hb dL_rank_35 hl (by decide) rfl (fun ls hl => ?_)
    suffices L16 : ∀ (n2 k : Nat) (Dw : Nat → Nat → Int), k + n2 = 8 → ((∀ i, i < r → ∀ k, k < 8 → Dw (ra i) k = bv ((fun i => if i < n then v i else mo2) i) k) ∧ ∀ j, j < k → Dw (ra r) j = bv ((fun i => if i < n then v i else mo2) r) j) → ∀ (H : Heap) (locs : List Loc), va_P (gD G) vwCl ([(h, .inr (2, [.int (nI mo), .ref q, .int (nI n)])), (q, .inl (G.2.2.1 4, N, .inr (.inr (.inr (.inr fl))))), (oq, .inl (G.2.2.1 3, (n + 1), .inr (.inr (.inr (.inr (foA (n + 1) ra))))))] ++ (va_pl ((List.range (n + 1)).map ra) (lF G Dw))) H → va_D A ([(h, .inr (2, [.int (nI mo), .ref q, .int (nI n)])), (q, .inl (G.2.2.1 4, N, .inr (.inr (.inr (.inr fl))))), (oq, .inl (G.2.2.1 3, (n + 1), .inr (.inr (.inr (.inr (foA (n + 1) ra))))))] ++ (va_pl ((List.range (n + 1)).map ra) (lF G Dw))) → va_S A s.heap H locs → ∀ ls : Array Slot, lv_has ls 14 [(0, .ref h), (1, .int (nI mo2)), (2, .int (nI (n + 1))), (3, .ref oq), (4, .int (nI r)), (5, .int (nI k))] → W P9 l e9 rm_c_rank_m s m9 args below meth c9 H locs 51 450 Q (F0 m9 37 ls []) by
      exact L16 _ 0 Dv (Nat.add_sub_cancel' (by omega)) (⟨hD1, (fun j hj => absurd hj (Nat.not_lt_zero j))⟩) _ _ (gtP hP [0, 1, 2] rfl) (gtD hD [0, 1, 2] (by decide) rfl) hS _ (lv_sub hl [1, 2, 3, 4, 5, 0] rfl)
    intro n2
    induction n2 with
    | zero =>
      intro k Dw hi2 hD2 H locs hP hD hS ls hl
      refine lv_iload hx hb dL_rank_37 (lv_at hl 5 rfl) ?_
      refine lv_bipush (v := nI 8) hx hb dL_rank_39 (by decide) ?_
      refine gN_ge (tgt := 92) hx hb dL_rank_41 (by decide) (by omega) (by decide) (fun c17 => ?_) (fun c17 => absurd c17 (by omega))
      refine lv_iinc (lv' := [(4, .int (nI (r + 1))), (0, .ref h), (1, .int (nI mo2)), (2, .int (nI (n + 1))), (3, .ref oq), (5, .int (nI k))]) hx hb dL_rank_92 hl (k := 4) rfl (n_inc _) (by decide) rfl (fun ls hl => ?_)
      refine lv_goto (tgt := 28) hx hb dL_rank_95 (by decide) ?_
      exact ih1 (r + 1) Dw (by omega) (fun i hi j hj => if e9 : i = r then (by rw [e9]; exact hD2.2 j (by omega)) else hD2.1 i (by omega) j hj) _ _ (gtP hP [0, 1, 2] rfl) (gtD hD [0, 1, 2] (by decide) rfl) hS _ (lv_sub hl [1, 2, 3, 4, 0] rfl)
    | succ n2 ih2 =>
      intro k Dw hi2 hD2 H locs hP hD hS ls hl
      refine lv_iload hx hb dL_rank_37 (lv_at hl 5 rfl) ?_
      refine lv_bipush (v := nI 8) hx hb dL_rank_39 (by decide) ?_
      refine gN_ge (tgt := 92) hx hb dL_rank_41 (by decide) (by omega) (by decide) (fun c18 => absurd c18 (by omega)) (fun c18 => ?_)
      refine lv_aload_n hx hb dL_rank_44 rfl (lv_at hl 3 rfl) ?_
      refine lv_iload hx hb dL_rank_45 (lv_at hl 4 rfl) ?_
      refine gR_aald hx hb hK hP 2 3 rfl rfl (by omega) (by omega) (if_pos (by omega)) dL_rank_47 ?_
      refine lv_iload hx hb dL_rank_48 (lv_at hl 5 rfl) ?_
      refine lv_iload hx hb dL_rank_50 (lv_at hl 4 rfl) ?_
      refine lv_aload_n hx hb dL_rank_52 rfl (lv_at hl 0 rfl) ?_
      refine gCFJ (ci := 2) (q0 := 0) (C := RJx4a65c) (As := []) (rest := [.int (nI r), .int (nI k), .ref (ra r)]) hE (c_L_size l G h mo (.ref q) n) (va_cwF 0 hts gL_rank_Jx4a65c_size_8abf5_f23Jx4a65c rfl rfl rfl (hE.face 0 rfl) (by decide +kernel) ⟨Nat.le_of_ble_eq_true rfl, Nat.le_of_ble_eq_true rfl⟩) (hK.1 2 _ rfl).2 ⟨hx, hb, hml, hown, hts⟩ hK hP hD hS hA (gJnQ (wr := [(q, .inl (G.2.2.1 4, N, .inr (.inr (.inr (.inr fl))))), (oq, .inl (G.2.2.1 3, (n + 1), .inr (.inr (.inr (.inr (foA (n + 1) ra))))))]) [0] [1, 2] rfl rfl (by decide) (by decide) (by decide)) rfl rfl rfl hl rfl (Nat.le_of_ble_eq_true rfl) dL_rank_53 ⟨Nat.le_of_ble_eq_true rfl, Nat.le_of_ble_eq_true rfl⟩ (fun u9 H locs hu hP hD hS => ?_)
      have hP : va_P (gD G) vwCl ([(q, .inl (G.2.2.1 4, N, .inr (.inr (.inr (.inr fl))))), (oq, .inl (G.2.2.1 3, (n + 1), .inr (.inr (.inr (.inr (foA (n + 1) ra)))))), (h, .inr (2, [.int (nI mo), .ref q, .int (nI n)]))] ++ (va_pl ((List.range (n + 1)).map ra) (lF G Dw))) H := hP
      have hD : va_D A ([(q, .inl (G.2.2.1 4, N, .inr (.inr (.inr (.inr fl))))), (oq, .inl (G.2.2.1 3, (n + 1), .inr (.inr (.inr (.inr (foA (n + 1) ra)))))), (h, .inr (2, [.int (nI mo), .ref q, .int (nI n)]))] ++ (va_pl ((List.range (n + 1)).map ra) (lF G Dw))) := hD
      refine W.eq (g2 := F0 m9 58 ls [.int (nI n), .int (nI r), .int (nI k), .ref (ra r)]) rfl ?_
      refine gN_ge (tgt := 78) hx hb dL_rank_58 (by decide) (by omega) (by omega) (fun c19 => ?_) (fun c19 => ?_)
      · refine lv_iload_n hx hb dL_rank_78 rfl (lv_at hl 1 rfl) ?_
        refine lv_iload hx hb dL_rank_79 (lv_at hl 5 rfl) ?_
        have hx64 : mo2 < 64 := hm
        have hxk : mo2 / 2 ^ k < 64 := Nat.lt_of_le_of_lt (Nat.div_le_self _ _) hx64
        have hxk1 : mo2 / 2 ^ k &&& 1 < 64 := Nat.lt_of_le_of_lt Nat.and_le_left hxk
        refine lv_ishr hx hb dL_rank_81 ?_
        refine gTop (y := (nI (mo2 / 2 ^ k))) (n_shr (by omega) (by omega)) ?_
        refine lv_iconst (v := nI 1) hx hb dL_rank_82 (by decide) ?_
        refine lv_iand hx hb dL_rank_83 ?_
        refine gTop (y := (nI ((mo2 / 2 ^ k) &&& 1))) (n_and _ _) ?_
        refine lv_i2l (v := iL (((mo2 / 2 ^ k) &&& 1 : Nat) : Int)) hx hb dL_rank_84 (iL_of (by omega)) ?_
        refine gL_ast (X := [(q, .inl (G.2.2.1 4, N, .inr (.inr (.inr (.inr fl))))), (oq, .inl (G.2.2.1 3, (n + 1), .inr (.inr (.inr (.inr (foA (n + 1) ra)))))), (h, .inr (2, [.int (nI mo), .ref q, .int (nI n)]))]) (D := Dw) hx hb hK hP hD hS (hra9 r (by omega)) (by omega) dL_rank_85 (fun H locs hP hD hS => ?_)
        have hP : va_P (gD G) vwCl ([(q, .inl (G.2.2.1 4, N, .inr (.inr (.inr (.inr fl))))), (oq, .inl (G.2.2.1 3, (n + 1), .inr (.inr (.inr (.inr (foA (n + 1) ra)))))), (h, .inr (2, [.int (nI mo), .ref q, .int (nI n)]))] ++ (va_pl ((List.range (n + 1)).map ra) (lF G (va_up Dw (ra r) (va_up (Dw (ra r)) k (((mo2 / 2 ^ k) &&& 1 : Nat) : Int)))))) H := hP
        have hD : va_D A ([(q, .inl (G.2.2.1 4, N, .inr (.inr (.inr (.inr fl))))), (oq, .inl (G.2.2.1 3, (n + 1), .inr (.inr (.inr (.inr (foA (n + 1) ra)))))), (h, .inr (2, [.int (nI mo), .ref q, .int (nI n)]))] ++ (va_pl ((List.range (n + 1)).map ra) (lF G (va_up Dw (ra r) (va_up (Dw (ra r)) k (((mo2 / 2 ^ k) &&& 1 : Nat) : Int)))))) := hD
        refine lv_iinc (lv' := [(5, .int (nI (k + 1))), (0, .ref h), (1, .int (nI mo2)), (2, .int (nI (n + 1))), (3, .ref oq), (4, .int (nI r))]) hx hb dL_rank_86 hl (k := 5) rfl (n_inc _) (by decide) rfl (fun ls hl => ?_)
        refine lv_goto (tgt := 37) hx hb dL_rank_89 (by decide) ?_
        exact ih2 (k + 1) (va_up Dw (ra r) (va_up (Dw (ra r)) k (((mo2 / 2 ^ k) &&& 1 : Nat) : Int))) (by omega) (⟨(fun i hi j hj => by rw [va_up_ne _ _ (fun z => absurd (hra _ _ (by omega) (by omega) z) (by omega))]; exact hD2.1 i hi j hj), (fun j hj => by
              rw [va_up_self]
              by_cases e9 : j = k
              · (rw [e9, va_up_self, bvI, (show (fun i => if i < n then v i else mo2) r = mo2 from if_neg (by omega))])
              · (rw [va_up_ne _ _ e9]; exact hD2.2 j (by omega)))⟩) _ _ (gtP hP [2, 0, 1] rfl) (gtD hD [2, 0, 1] (by decide) rfl) hS _ (lv_sub hl [1, 2, 3, 4, 5, 0] rfl)
      · refine lv_aload_n hx hb dL_rank_61 rfl (lv_at hl 0 rfl) ?_
        refine lv_iload hx hb dL_rank_62 (lv_at hl 4 rfl) ?_
        refine gCFJ (ci := 2) (q0 := 0) (C := RJx4a65c) (As := [.int (nI r)]) (rest := [.int (nI k), .ref (ra r)]) hE (c_L_get l G h mo q n N fl r (gI G (v r + 128)) (by omega) (by omega) (by omega) (hfl r (by omega))) (va_cwF 1 hts gL_rank_Jx4a65c_get_915e3_f31Jx4a65c rfl rfl rfl (hE.face 1 rfl) (by decide +kernel) ⟨Nat.le_of_ble_eq_true rfl, Nat.le_of_ble_eq_true rfl⟩) (hK.1 2 _ rfl).2 ⟨hx, hb, hml, hown, hts⟩ hK hP hD hS hA (gJnQ (wr := [(oq, .inl (G.2.2.1 3, (n + 1), .inr (.inr (.inr (.inr (foA (n + 1) ra))))))]) [2, 0] [1] rfl rfl (by decide) (by decide) (by decide)) rfl rfl rfl hl rfl (Nat.le_of_ble_eq_true rfl) dL_rank_64 ⟨Nat.le_of_ble_eq_true rfl, Nat.le_of_ble_eq_true rfl⟩ (fun u9 H locs hu hP hD hS => ?_)
        have hP : va_P (gD G) vwCl ([(oq, .inl (G.2.2.1 3, (n + 1), .inr (.inr (.inr (.inr (foA (n + 1) ra)))))), (h, .inr (2, [.int (nI mo), .ref q, .int (nI n)])), (q, .inl (G.2.2.1 4, N, .inr (.inr (.inr (.inr fl)))))] ++ (va_pl ((List.range (n + 1)).map ra) (lF G Dw))) H := hP
        have hD : va_D A ([(oq, .inl (G.2.2.1 3, (n + 1), .inr (.inr (.inr (.inr (foA (n + 1) ra)))))), (h, .inr (2, [.int (nI mo), .ref q, .int (nI n)])), (q, .inl (G.2.2.1 4, N, .inr (.inr (.inr (.inr fl)))))] ++ (va_pl ((List.range (n + 1)).map ra) (lF G Dw))) := hD
        refine W.eq (g2 := F0 m9 69 ls [.ref (gI G (v r + 128)), .int (nI k), .ref (ra r)]) rfl ?_
        have hvr := hv r (by omega)
        refine va_castS (nm := "java/lang/Integer") hx hb hown (hts (.classLink RL 35 "java/lang/Integer") (by decide +kernel)) (hK.1 0 _ rfl).2 (gI_recv hE hS (show v r + 128 < 256 by omega)) dL_rank_69 ?_
        refine gCVK (C := RJ6) (As := []) (rest := [.int (nI k), .ref (ra r)]) hE (c_intValue l G (v r) (by omega)) (cwV 0 hts gL_rank_J6_intValue_8abf5 rfl rfl rfl (by decide +kernel) ⟨(Nat.le_of_ble_eq_true rfl), (Nat.le_of_ble_eq_true rfl)⟩) ⟨hx, hb, hml, hown, hts⟩ hK hP hD hS hA (gJnQ (wr := [(oq, .inl (G.2.2.1 3, (n + 1), .inr (.inr (.inr (.inr (foA (n + 1) ra)))))), (h, .inr (2, [.int (nI mo), .ref q, .int (nI n)])), (q, .inl (G.2.2.1 4, N, .inr (.inr (.inr (.inr fl)))))]) [] [0, 1, 2] rfl rfl (by decide) (by decide) (by decide)) (gI_recv hE hS (show v r + 128 < 256 by omega)) rfl hl rfl (Nat.le_of_ble_eq_true rfl) dL_rank_72 ⟨(Nat.le_of_ble_eq_true rfl), (Nat.le_of_ble_eq_true rfl)⟩ (fun u9 H locs hu hP hD hS => ?_)
        have hP : va_P (gD G) vwCl ([(oq, .inl (G.2.2.1 3, (n + 1), .inr (.inr (.inr (.inr (foA (n + 1) ra)))))), (h, .inr (2, [.int (nI mo), .ref q, .int (nI n)])), (q, .inl (G.2.2.1 4, N, .inr (.inr (.inr (.inr fl)))))] ++ (va_pl ((List.range (n + 1)).map ra) (lF G Dw))) H := hP
        have hD : va_D A ([(oq, .inl (G.2.2.1 3, (n + 1), .inr (.inr (.inr (.inr (foA (n + 1) ra)))))), (h, .inr (2, [.int (nI mo), .ref q, .int (nI n)])), (q, .inl (G.2.2.1 4, N, .inr (.inr (.inr (.inr fl)))))] ++ (va_pl ((List.range (n + 1)).map ra) (lF G Dw))) := hD
        refine W.eq (g2 := F0 m9 75 ls [.int (nI (v r)), .int (nI k), .ref (ra r)]) rfl ?_
        refine lv_goto (tgt := 79) hx hb dL_rank_75 (by decide) ?_
        refine lv_iload hx hb dL_rank_79 (lv_at hl 5 rfl) ?_
        have hx64 : (v r) < 64 := hvr
        have hxk : (v r) / 2 ^ k < 64 := Nat.lt_of_le_of_lt (Nat.div_le_self _ _) hx64
        have hxk1 : (v r) / 2 ^ k &&& 1 < 64 := Nat.lt_of_le_of_lt Nat.and_le_left hxk
        refine lv_ishr hx hb dL_rank_81 ?_
        refine gTop (y := (nI ((v r) / 2 ^ k))) (n_shr (by omega) (by omega)) ?_
        refine lv_iconst (v := nI 1) hx hb dL_rank_82 (by decide) ?_
        refine lv_iand hx hb dL_rank_83 ?_
        refine gTop (y := (nI (((v r) / 2 ^ k) &&& 1))) (n_and _ _) ?_
        refine lv_i2l (v := iL ((((v r) / 2 ^ k) &&& 1 : Nat) : Int)) hx hb dL_rank_84 (iL_of (by omega)) ?_
        refine gL_ast (X := [(oq, .inl (G.2.2.1 3, (n + 1), .inr (.inr (.inr (.inr (foA (n + 1) ra)))))), (h, .inr (2, [.int (nI mo), .ref q, .int (nI n)])), (q, .inl (G.2.2.1 4, N, .inr (.inr (.inr (.inr fl)))))]) (D := Dw) hx hb hK hP hD hS (hra9 r (by omega)) (by omega) dL_rank_85 (fun H locs hP hD hS => ?_)
        have hP : va_P (gD G) vwCl ([(oq, .inl (G.2.2.1 3, (n + 1), .inr (.inr (.inr (.inr (foA (n + 1) ra)))))), (h, .inr (2, [.int (nI mo), .ref q, .int (nI n)])), (q, .inl (G.2.2.1 4, N, .inr (.inr (.inr (.inr fl)))))] ++ (va_pl ((List.range (n + 1)).map ra) (lF G (va_up Dw (ra r) (va_up (Dw (ra r)) k ((((v r) / 2 ^ k) &&& 1 : Nat) : Int)))))) H := hP
        have hD : va_D A ([(oq, .inl (G.2.2.1 3, (n + 1), .inr (.inr (.inr (.inr (foA (n + 1) ra)))))), (h, .inr (2, [.int (nI mo), .ref q, .int (nI n)])), (q, .inl (G.2.2.1 4, N, .inr (.inr (.inr (.inr fl)))))] ++ (va_pl ((List.range (n + 1)).map ra) (lF G (va_up Dw (ra r) (va_up (Dw (ra r)) k ((((v r) / 2 ^ k) &&& 1 : Nat) : Int)))))) := hD
        refine lv_iinc (lv' := [(5, .int (nI (k + 1))), (0, .ref h), (1, .int (nI mo2)), (2, .int (nI (n + 1))), (3, .ref oq), (4, .int (nI r))]) hx hb dL_rank_86 hl (k := 5) rfl (n_inc _) (by decide) rfl (fun ls hl => ?_)
        refine lv_goto (tgt := 37) hx hb dL_rank_89 (by decide) ?_
        exact ih2 (k + 1) (va_up Dw (ra r) (va_up (Dw (ra r)) k ((((v r) / 2 ^ k) &&& 1 : Nat) : Int))) (by omega) (⟨(fun i hi j hj => by rw [va_up_ne _ _ (fun z => absurd (hra _ _ (by omega) (by omega) z) (by omega))]; exact hD2.1 i hi j hj), (fun j hj => by
              rw [va_up_self]
              by_cases e9 : j = k
              · (rw [e9, va_up_self, bvI, (show (fun i => if i < n then v i else mo2) r = (v r) from if_pos (by omega))])
              · (rw [va_up_ne _ _ e9]; exact hD2.2 j (by omega)))⟩) _ _ (gtP hP [1, 2, 0] rfl) (gtD hD [1, 2, 0] (by decide) rfl) hS _ (lv_sub hl [1, 2, 3, 4, 5, 0] rfl)

def rm_c_rank_0 : Room := { frames := 1, cells := 51, slots := 450, locals := 20 }
set_option maxHeartbeats 4000000 in
set_option maxRecDepth 100000 in
/-- c_rank_0 -/
theorem c_rank_0 (l : Launch) (G : gG) (h : Nat) (mo : Nat)  : gMet (S := Nat) l G yL_rank wsL_rank rm_c_rank_0 [.ref h, .int (-1)] [(h, .inr (2, [.int (nI mo), .ref (G.2.2.2 0), .int (nI 0)]))] (fun rk => cnt (ld 1000003 (fun u => ∃ i, i < 0 ∧ u = bv ((fun _ => 0) i))) 8 rk ∧ rk ≤ 50) (fun rk => some (.int (nI rk))) (fun _ => [(h, .inr (2, [.int (nI mo), .ref (G.2.2.2 0), .int (nI 0)]))]) := by
  refine gOf (maxL := 14) (ret := (some .int)) (cc := cL_rank) (by decide) rfl (Nat.le_of_ble_eq_true rfl) ?_
  intro P9 e9 s m9 args below meth c9 A ls H locs Q hQ hx hb hml hr hown hts hlocks hin hK hP hD hS hA hE hl
  have hown : s.vm.findClass RL = some m9.cls := hown
  have hl : lv_has ls 14 [(0, .ref h), (1, .int (-1))] := hl
  refine lv_aload_n hx hb dL_rank_0 rfl (lv_at hl 0 rfl) ?_
  refine gCFJ (ci := 2) (q0 := 0) (C := RJx4a65c) (As := []) (rest := []) hE (c_L_size l G h mo (.ref (G.2.2.2 0)) 0) (va_cwF 0 hts gL_rank_Jx4a65c_size_8abf5_f23Jx4a65c rfl rfl rfl (hE.face 0 rfl) (by decide +kernel) ⟨Nat.le_of_ble_eq_true rfl, Nat.le_of_ble_eq_true rfl⟩) (hK.1 2 _ rfl).2 ⟨hx, hb, hml, hown, hts⟩ hK hP hD hS hA (gJn0 (wr := []) [0] [] rfl rfl (by decide) (by decide) (by decide)) rfl rfl rfl hl rfl (Nat.le_of_ble_eq_true rfl) dL_rank_1 ⟨Nat.le_of_ble_eq_true rfl, Nat.le_of_ble_eq_true rfl⟩ (fun u9 H locs hu hP hD hS => ?_)
  have hP : va_P (gD G) vwCl [(h, .inr (2, [.int (nI mo), .ref (G.2.2.2 0), .int (nI 0)]))] H := hP
  have hD : va_D A [(h, .inr (2, [.int (nI mo), .ref (G.2.2.2 0), .int (nI 0)]))] := hD
  refine W.eq (g2 := F0 m9 6 ls [.int (nI 0)]) rfl ?_
  refine lv_iload_n hx hb dL_rank_6 rfl (lv_at hl 1 rfl) ?_
  refine lv_if_ge (tgt := 14) hx hb dL_rank_7 (by decide) (fun h9 => absurd h9 (by decide)) (fun _ => ?_)
  refine lv_iconst (v := nI 0) hx hb dL_rank_10 (by decide) ?_
  refine lv_goto (tgt := 15) hx hb dL_rank_11 (by decide) ?_
  refine lv_iadd hx hb dL_rank_15 ?_
  refine gTop (y := (nI (0 + 0))) (nI_add _ _) ?_
  refine gTop (y := nI 0) rfl ?_
  refine lv_istore_n (lv' := [(2, .int (nI 0)), (0, .ref h), (1, .int (-1))]) hx hb dL_rank_16 rfl hl (by decide) rfl (fun ls hl => ?_)
  refine lv_iload_n hx hb dL_rank_17 rfl (lv_at hl 0 rfl) ?_
  refine lv_bipush (v := nI 8) hx hb dL_rank_18 (by decide) ?_
  refine gL_mna (n := 0) hx hb hown hE (hts (.classLink RL 29 "[[J") (by decide +kernel)) (hts (.arrayClass .long) (by decide +kernel)) hK hP hD hS hA (by omega) (Nat.le_of_ble_eq_true rfl) (Nat.le_of_ble_eq_true rfl) dL_rank_20 (fun oq ra H hra hP hD hS => ?_)
  have hP : va_P (gD G) vwCl ([(h, .inr (2, [.int (nI mo), .ref (G.2.2.2 0), .int (nI 0)])), (oq, .inl (G.2.2.1 3, 0, .inr (.inr (.inr (.inr (foA 0 ra))))))] ++ (va_pl ((List.range 0).map ra) (lF G (fun _ _ => 0)))) H := hP
  have hD : va_D A ([(h, .inr (2, [.int (nI mo), .ref (G.2.2.2 0), .int (nI 0)])), (oq, .inl (G.2.2.1 3, 0, .inr (.inr (.inr (.inr (foA 0 ra))))))] ++ (va_pl ((List.range 0).map ra) (lF G (fun _ _ => 0)))) := hD
  have hra9 : ∀ i, i < 0 → ra i ∈ ((List.range 0).map ra) := fun i hi => List.mem_map.mpr ⟨i, List.mem_range.mpr hi, rfl⟩
  refine lv_astore_n (lv' := [(3, .ref oq), (2, .int (nI 0)), (0, .ref h), (1, .int (-1))]) hx hb dL_rank_24 rfl hl (by decide) rfl (fun ls hl => ?_)
  refine lv_iconst (v := nI 0) hx hb dL_rank_25 (by decide) ?_
  refine lv_istore (lv' := [(4, .int (nI 0)), (3, .ref oq), (2, .int (nI 0)), (0, .ref h), (1, .int (-1))]) hx hb dL_rank_26 hl (by decide) rfl (fun ls hl => ?_)
  suffices L1 : ∀ (n1 r : Nat) (Dv : Nat → Nat → Int), r + n1 = 0 → (∀ i, i < r → ∀ k, k < 8 → Dv (ra i) k = bv ((fun _ => 0) i) k) → ∀ (H : Heap) (locs : List Loc), va_P (gD G) vwCl ([(h, .inr (2, [.int (nI mo), .ref (G.2.2.2 0), .int (nI 0)])), (oq, .inl (G.2.2.1 3, 0, .inr (.inr (.inr (.inr (foA 0 ra))))))] ++ (va_pl ((List.range 0).map ra) (lF G Dv))) H → va_D A ([(h, .inr (2, [.int (nI mo), .ref (G.2.2.2 0), .int (nI 0)])), (oq, .inl (G.2.2.1 3, 0, .inr (.inr (.inr (.inr (foA 0 ra))))))] ++ (va_pl ((List.range 0).map ra) (lF G Dv))) → va_S A s.heap H locs → ∀ ls : Array Slot, lv_has ls 14 [(0, .ref h), (1, .int (-1)), (2, .int (nI 0)), (3, .ref oq), (4, .int (nI r))] → W P9 l e9 rm_c_rank_0 s m9 args below meth c9 H locs 51 450 Q (F0 m9 28 ls []) by
    exact L1 _ 0 (fun _ _ => 0) (Nat.add_sub_cancel' (by omega)) (fun i hi => absurd hi (Nat.not_lt_zero i)) _ _ (gtP hP [0, 1] rfl) (gtD hD [0, 1] (by decide) rfl) hS _ (lv_sub hl [3, 4, 2, 1, 0] rfl)
  intro n1
  induction n1 with
  | zero =>
    intro r Dv hi1 hD1 H locs hP hD hS ls hl
    refine lv_iload hx hb dL_rank_28 (lv_at hl 4 rfl) ?_
    refine lv_iload_n hx hb dL_rank_30 rfl (lv_at hl 2 rfl) ?_
    refine gN_ge (tgt := 98) hx hb dL_rank_31 (by decide) (by omega) (by decide) (fun c2 => ?_) (fun c2 => absurd c2 (by omega))
    have er : r = 0 := by omega
    have hR0 : RkI (fun u => ∃ i, i < 0 ∧ u = bv ((fun _ => 0) i)) 0 (fun i => Dv (ra i)) 0 0 := RkI_0' (fun i hi => ⟨bv ((fun _ => 0) i), ⟨i, hi, rfl⟩, (fun k hk => (hD1 i (by omega) k hk).symm)⟩) (fun u ⟨i, hi, e⟩ => ⟨i, hi, (fun k hk => by rw [e]; exact hD1 i (by omega) k hk)⟩) (fun i hi k hk => by show 0 ≤ Dv (ra i) k ∧ Dv (ra i) k < 1000003; rw [hD1 i (by omega) k hk]; show 0 ≤ bz _ ∧ bz _ < 1000003; generalize ((fun _ => 0) i).testBit k = b9; cases b9 <;> decide)
    refine lv_iconst (v := nI 0) hx hb dL_rank_98 (by decide) ?_
    refine lv_istore (lv' := [(4, .int (nI 0)), (0, .ref h), (1, .int (-1)), (2, .int (nI 0)), (3, .ref oq)]) hx hb dL_rank_99 hl (by decide) rfl (fun ls hl => ?_)
    refine lv_iconst (v := nI 0) hx hb dL_rank_101 (by decide) ?_
    refine lv_istore (lv' := [(5, .int (nI 0)), (4, .int (nI 0)), (0, .ref h), (1, .int (-1)), (2, .int (nI 0)), (3, .ref oq)]) hx hb dL_rank_102 hl (by decide) rfl (fun ls hl => ?_)
    suffices L3 : ∀ (n3 c : Nat) (rk : Nat) (Dm : Nat → Nat → Int) (A2 : Nat → Nat), c + n3 = 8 → (RkI (fun u => ∃ i, i < 0 ∧ u = bv ((fun _ => 0) i)) 0 (fun i => Dm (A2 i)) c rk) → ((∀ i, i < 0 → A2 i ∈ ((List.range 0).map ra)) ∧ ∀ i j, i < 0 → j < 0 → A2 i = A2 j → i = j) → ∀ (H : Heap) (locs : List Loc), va_P (gD G) vwCl ([(h, .inr (2, [.int (nI mo), .ref (G.2.2.2 0), .int (nI 0)])), (oq, .inl (G.2.2.1 3, 0, .inr (.inr (.inr (.inr (foA 0 A2))))))] ++ (va_pl ((List.range 0).map ra) (lF G Dm))) H → va_D A ([(h, .inr (2, [.int (nI mo), .ref (G.2.2.2 0), .int (nI 0)])), (oq, .inl (G.2.2.1 3, 0, .inr (.inr (.inr (.inr (foA 0 A2))))))] ++ (va_pl ((List.range 0).map ra) (lF G Dm))) → va_S A s.heap H locs → ∀ ls : Array Slot, lv_has ls 14 [(0, .ref h), (1, .int (-1)), (2, .int (nI 0)), (3, .ref oq), (4, .int (nI rk)), (5, .int (nI c))] → W P9 l e9 rm_c_rank_0 s m9 args below meth c9 H locs 51 450 Q (F0 m9 104 ls []) by
      exact L3 _ 0 0 Dv ra (Nat.add_sub_cancel' (by omega)) hR0 (⟨hra9, hra⟩) _ _ (gtP hP [0, 1] rfl) (gtD hD [0, 1] (by decide) rfl) hS _ (lv_sub hl [2, 3, 4, 5, 1, 0] rfl)
    intro n3
    induction n3 with
    | zero =>
      intro c rk Dm A2 hi3 hR hm2 H locs hP hD hS ls hl
      refine lv_iload hx hb dL_rank_104 (lv_at hl 5 rfl) ?_
      refine lv_bipush (v := nI 8) hx hb dL_rank_106 (by decide) ?_
      refine gN_ge (tgt := 259) hx hb dL_rank_108 (by decide) (by omega) (by decide) (fun c4 => ?_) (fun c4 => absurd c4 (by omega))
      refine lv_iload hx hb dL_rank_259 (lv_at hl 4 rfl) ?_
      have hrk9 := hR.1
      have ec9 : c = 8 := by omega
      exact gIret (hQ := hQ) hx hb hr hlocks hP hD hS rk ⟨(by have h9 := hR.2.2.2.1; rw [ec9] at h9; exact h9), (show rk ≤ 50 by omega)⟩ (by rfl) [0] (by decide) (by rfl) (Nat.le_of_ble_eq_true rfl) (Nat.le_of_ble_eq_true rfl) dL_rank_261
    | succ n3 ih3 =>
      intro c rk Dm A2 hi3 hR hm2 H locs hP hD hS ls hl
      refine lv_iload hx hb dL_rank_104 (lv_at hl 5 rfl) ?_
      refine lv_bipush (v := nI 8) hx hb dL_rank_106 (by decide) ?_
      refine gN_ge (tgt := 259) hx hb dL_rank_108 (by decide) (by omega) (by decide) (fun c5 => absurd c5 (by omega)) (fun c5 => ?_)
      have hrk := hR.1
      refine lv_iload hx hb dL_rank_111 (lv_at hl 4 rfl) ?_
      refine lv_istore (lv' := [(6, .int (nI rk)), (0, .ref h), (1, .int (-1)), (2, .int (nI 0)), (3, .ref oq), (4, .int (nI rk)), (5, .int (nI c))]) hx hb dL_rank_113 hl (by decide) rfl (fun ls hl => ?_)
      suffices L6 : ∀ (n4 pi : Nat), pi + n4 = 0 → (rk ≤ pi ∧ ∀ i, rk ≤ i → i < pi → Dm (A2 i) c = 0) → ∀ (H : Heap) (locs : List Loc), va_P (gD G) vwCl ([(h, .inr (2, [.int (nI mo), .ref (G.2.2.2 0), .int (nI 0)])), (oq, .inl (G.2.2.1 3, 0, .inr (.inr (.inr (.inr (foA 0 A2))))))] ++ (va_pl ((List.range 0).map ra) (lF G Dm))) H → va_D A ([(h, .inr (2, [.int (nI mo), .ref (G.2.2.2 0), .int (nI 0)])), (oq, .inl (G.2.2.1 3, 0, .inr (.inr (.inr (.inr (foA 0 A2))))))] ++ (va_pl ((List.range 0).map ra) (lF G Dm))) → va_S A s.heap H locs → ∀ ls : Array Slot, lv_has ls 14 [(0, .ref h), (1, .int (-1)), (2, .int (nI 0)), (3, .ref oq), (4, .int (nI rk)), (5, .int (nI c)), (6, .int (nI pi))] → W P9 l e9 rm_c_rank_0 s m9 args below meth c9 H locs 51 450 Q (F0 m9 115 ls []) by
        exact L6 _ rk  (Nat.add_sub_cancel' (by omega)) (⟨Nat.le_refl rk, (fun i h1 h2 => absurd h2 (by omega))⟩) _ _ (gtP hP [0, 1] rfl) (gtD hD [0, 1] (by decide) rfl) hS _ (lv_sub hl [1, 2, 3, 4, 5, 6, 0] rfl)
      intro n4
      induction n4 with
      | zero =>
        intro pi hi4 hz H locs hP hD hS ls hl
        refine lv_iload hx hb dL_rank_115 (lv_at hl 6 rfl) ?_
        refine lv_iload_n hx hb dL_rank_117 rfl (lv_at hl 2 rfl) ?_
        refine gN_ge (tgt := 139) hx hb dL_rank_118 (by decide) (by omega) (by decide) (fun c7 => ?_) (fun c7 => absurd c7 (by omega))
        refine lv_iload hx hb dL_rank_139 (lv_at hl 6 rfl) ?_
        refine lv_iload_n hx hb dL_rank_141 rfl (lv_at hl 2 rfl) ?_
        refine gN_ne (tgt := 148) hx hb dL_rank_142 (by decide) (by omega) (by omega) (fun c142 => absurd (show pi = 0 by omega) c142) (fun c142 => ?_)
        refine lv_goto (tgt := 253) hx hb dL_rank_145 (by decide) ?_
        refine lv_iinc (lv' := [(5, .int (nI (c + 1))), (0, .ref h), (1, .int (-1)), (2, .int (nI 0)), (3, .ref oq), (4, .int (nI rk)), (6, .int (nI pi))]) hx hb dL_rank_253 hl (k := 5) rfl (n_inc _) (by decide) rfl (fun ls hl => ?_)
        refine lv_goto (tgt := 104) hx hb dL_rank_256 (by decide) ?_
        exact ih3 (c + 1) rk Dm A2 (by omega) (RkI_skip hR (by omega) (fun i h1 h2 => hz.2 i h1 (by omega))) hm2 _ _ (gtP hP [0, 1] rfl) (gtD hD [0, 1] (by decide) rfl) hS _ (lv_sub hl [1, 2, 3, 4, 5, 0] rfl)
      | succ n4 ih4 =>
        intro pi hi4 hz H locs hP hD hS ls hl
        refine lv_iload hx hb dL_rank_115 (lv_at hl 6 rfl) ?_
        refine lv_iload_n hx hb dL_rank_117 rfl (lv_at hl 2 rfl) ?_
        refine gN_ge (tgt := 139) hx hb dL_rank_118 (by decide) (by omega) (by decide) (fun c8 => absurd c8 (by omega)) (fun c8 => ?_)
        exact absurd hi4 (by omega)
  | succ n1 ih1 =>
    intro r Dv hi1 hD1 H locs hP hD hS ls hl
    refine lv_iload hx hb dL_rank_28 (lv_at hl 4 rfl) ?_
    refine lv_iload_n hx hb dL_rank_30 rfl (lv_at hl 2 rfl) ?_
    refine gN_ge (tgt := 98) hx hb dL_rank_31 (by decide) (by omega) (by decide) (fun c9 => absurd c9 (by omega)) (fun c9 => ?_)
    exact absurd hi1 (by omega)

def rm_c_rank_1 : Room := { frames := 1, cells := 51, slots := 450, locals := 30 }
set_option maxHeartbeats 4000000 in
set_option maxRecDepth 100000 in
/-- c_rank_1 -/
theorem c_rank_1 (l : Launch) (G : gG) (h : Nat) (mo : Nat) (mo2 : Nat) (hm : mo2 < 64) : gMet (S := Nat) l G yL_rank wsL_rank rm_c_rank_1 [.ref h, .int (nI mo2)] [(h, .inr (2, [.int (nI mo), .ref (G.2.2.2 0), .int (nI 0)]))] (fun rk => cnt (ld 1000003 (fun u => ∃ i, i < 1 ∧ u = bv ((fun _ => mo2) i))) 8 rk ∧ rk ≤ 50) (fun rk => some (.int (nI rk))) (fun _ => [(h, .inr (2, [.int (nI mo), .ref (G.2.2.2 0), .int (nI 0)]))]) := by
  refine gOf (maxL := 14) (ret := (some .int)) (cc := cL_rank) (by decide) rfl (Nat.le_of_ble_eq_true rfl) ?_
  intro P9 e9 s m9 args below meth c9 A ls H locs Q hQ hx hb hml hr hown hts hlocks hin hK hP hD hS hA hE hl
  have hown : s.vm.findClass RL = some m9.cls := hown
  have hl : lv_has ls 14 [(0, .ref h), (1, .int (nI mo2))] := hl
  refine lv_aload_n hx hb dL_rank_0 rfl (lv_at hl 0 rfl) ?_
  refine gCFJ (ci := 2) (q0 := 0) (C := RJx4a65c) (As := []) (rest := []) hE (c_L_size l G h mo (.ref (G.2.2.2 0)) 0) (va_cwF 0 hts gL_rank_Jx4a65c_size_8abf5_f23Jx4a65c rfl rfl rfl (hE.face 0 rfl) (by decide +kernel) ⟨Nat.le_of_ble_eq_true rfl, Nat.le_of_ble_eq_true rfl⟩) (hK.1 2 _ rfl).2 ⟨hx, hb, hml, hown, hts⟩ hK hP hD hS hA (gJn0 (wr := []) [0] [] rfl rfl (by decide) (by decide) (by decide)) rfl rfl rfl hl rfl (Nat.le_of_ble_eq_true rfl) dL_rank_1 ⟨Nat.le_of_ble_eq_true rfl, Nat.le_of_ble_eq_true rfl⟩ (fun u9 H locs hu hP hD hS => ?_)
  have hP : va_P (gD G) vwCl [(h, .inr (2, [.int (nI mo), .ref (G.2.2.2 0), .int (nI 0)]))] H := hP
  have hD : va_D A [(h, .inr (2, [.int (nI mo), .ref (G.2.2.2 0), .int (nI 0)]))] := hD
  refine W.eq (g2 := F0 m9 6 ls [.int (nI 0)]) rfl ?_
  refine lv_iload_n hx hb dL_rank_6 rfl (lv_at hl 1 rfl) ?_
  refine gN_ge0 (tgt := 14) hx hb dL_rank_7 (by decide) (by omega) ?_
  refine lv_iconst (v := nI 1) hx hb dL_rank_14 (by decide) ?_
  refine lv_iadd hx hb dL_rank_15 ?_
  refine gTop (y := (nI (0 + 1))) (nI_add _ _) ?_
  refine gTop (y := nI 1) rfl ?_
  refine lv_istore_n (lv' := [(2, .int (nI 1)), (0, .ref h), (1, .int (nI mo2))]) hx hb dL_rank_16 rfl hl (by decide) rfl (fun ls hl => ?_)
  refine lv_iload_n hx hb dL_rank_17 rfl (lv_at hl 0 rfl) ?_
  refine lv_bipush (v := nI 8) hx hb dL_rank_18 (by decide) ?_
  refine gL_mna (n := 1) hx hb hown hE (hts (.classLink RL 29 "[[J") (by decide +kernel)) (hts (.arrayClass .long) (by decide +kernel)) hK hP hD hS hA (by omega) (Nat.le_of_ble_eq_true rfl) (Nat.le_of_ble_eq_true rfl) dL_rank_20 (fun oq ra H hra hP hD hS => ?_)
  have hP : va_P (gD G) vwCl ([(h, .inr (2, [.int (nI mo), .ref (G.2.2.2 0), .int (nI 0)])), (oq, .inl (G.2.2.1 3, 1, .inr (.inr (.inr (.inr (foA 1 ra))))))] ++ (va_pl ((List.range 1).map ra) (lF G (fun _ _ => 0)))) H := hP
  have hD : va_D A ([(h, .inr (2, [.int (nI mo), .ref (G.2.2.2 0), .int (nI 0)])), (oq, .inl (G.2.2.1 3, 1, .inr (.inr (.inr (.inr (foA 1 ra))))))] ++ (va_pl ((List.range 1).map ra) (lF G (fun _ _ => 0)))) := hD
  have hra9 : ∀ i, i < 1 → ra i ∈ ((List.range 1).map ra) := fun i hi => List.mem_map.mpr ⟨i, List.mem_range.mpr hi, rfl⟩
  refine lv_astore_n (lv' := [(3, .ref oq), (2, .int (nI 1)), (0, .ref h), (1, .int (nI mo2))]) hx hb dL_rank_24 rfl hl (by decide) rfl (fun ls hl => ?_)
  refine lv_iconst (v := nI 0) hx hb dL_rank_25 (by decide) ?_
  refine lv_istore (lv' := [(4, .int (nI 0)), (3, .ref oq), (2, .int (nI 1)), (0, .ref h), (1, .int (nI mo2))]) hx hb dL_rank_26 hl (by decide) rfl (fun ls hl => ?_)
  suffices L1 : ∀ (n1 r : Nat) (Dv : Nat → Nat → Int), r + n1 = 1 → (∀ i, i < r → ∀ k, k < 8 → Dv (ra i) k = bv ((fun _ => mo2) i) k) → ∀ (H : Heap) (locs : List Loc), va_P (gD G) vwCl ([(h, .inr (2, [.int (nI mo), .ref (G.2.2.2 0), .int (nI 0)])), (oq, .inl (G.2.2.1 3, 1, .inr (.inr (.inr (.inr (foA 1 ra))))))] ++ (va_pl ((List.range 1).map ra) (lF G Dv))) H → va_D A ([(h, .inr (2, [.int (nI mo), .ref (G.2.2.2 0), .int (nI 0)])), (oq, .inl (G.2.2.1 3, 1, .inr (.inr (.inr (.inr (foA 1 ra))))))] ++ (va_pl ((List.range 1).map ra) (lF G Dv))) → va_S A s.heap H locs → ∀ ls : Array Slot, lv_has ls 14 [(0, .ref h), (1, .int (nI mo2)), (2, .int (nI 1)), (3, .ref oq), (4, .int (nI r))] → W P9 l e9 rm_c_rank_1 s m9 args below meth c9 H locs 51 450 Q (F0 m9 28 ls []) by
    exact L1 _ 0 (fun _ _ => 0) (Nat.add_sub_cancel' (by omega)) (fun i hi => absurd hi (Nat.not_lt_zero i)) _ _ (gtP hP [0, 1] rfl) (gtD hD [0, 1] (by decide) rfl) hS _ (lv_sub hl [3, 4, 2, 1, 0] rfl)
  intro n1
  induction n1 with
  | zero =>
    intro r Dv hi1 hD1 H locs hP hD hS ls hl
    refine lv_iload hx hb dL_rank_28 (lv_at hl 4 rfl) ?_
    refine lv_iload_n hx hb dL_rank_30 rfl (lv_at hl 2 rfl) ?_
    refine gN_ge (tgt := 98) hx hb dL_rank_31 (by decide) (by omega) (by decide) (fun c2 => ?_) (fun c2 => absurd c2 (by omega))
    have er : r = 1 := by omega
    have hR0 : RkI (fun u => ∃ i, i < 1 ∧ u = bv ((fun _ => mo2) i)) 1 (fun i => Dv (ra i)) 0 0 := RkI_0' (fun i hi => ⟨bv ((fun _ => mo2) i), ⟨i, hi, rfl⟩, (fun k hk => (hD1 i (by omega) k hk).symm)⟩) (fun u ⟨i, hi, e⟩ => ⟨i, hi, (fun k hk => by rw [e]; exact hD1 i (by omega) k hk)⟩) (fun i hi k hk => by show 0 ≤ Dv (ra i) k ∧ Dv (ra i) k < 1000003; rw [hD1 i (by omega) k hk]; show 0 ≤ bz _ ∧ bz _ < 1000003; generalize ((fun _ => mo2) i).testBit k = b9; cases b9 <;> decide)
    refine lv_iconst (v := nI 0) hx hb dL_rank_98 (by decide) ?_
    refine lv_istore (lv' := [(4, .int (nI 0)), (0, .ref h), (1, .int (nI mo2)), (2, .int (nI 1)), (3, .ref oq)]) hx hb dL_rank_99 hl (by decide) rfl (fun ls hl => ?_)
    refine lv_iconst (v := nI 0) hx hb dL_rank_101 (by decide) ?_
    refine lv_istore (lv' := [(5, .int (nI 0)), (4, .int (nI 0)), (0, .ref h), (1, .int (nI mo2)), (2, .int (nI 1)), (3, .ref oq)]) hx hb dL_rank_102 hl (by decide) rfl (fun ls hl => ?_)
    suffices L3 : ∀ (n3 c : Nat) (rk : Nat) (Dm : Nat → Nat → Int) (A2 : Nat → Nat), c + n3 = 8 → (RkI (fun u => ∃ i, i < 1 ∧ u = bv ((fun _ => mo2) i)) 1 (fun i => Dm (A2 i)) c rk) → ((∀ i, i < 1 → A2 i ∈ ((List.range 1).map ra)) ∧ ∀ i j, i < 1 → j < 1 → A2 i = A2 j → i = j) → ∀ (H : Heap) (locs : List Loc), va_P (gD G) vwCl ([(h, .inr (2, [.int (nI mo), .ref (G.2.2.2 0), .int (nI 0)])), (oq, .inl (G.2.2.1 3, 1, .inr (.inr (.inr (.inr (foA 1 A2))))))] ++ (va_pl ((List.range 1).map ra) (lF G Dm))) H → va_D A ([(h, .inr (2, [.int (nI mo), .ref (G.2.2.2 0), .int (nI 0)])), (oq, .inl (G.2.2.1 3, 1, .inr (.inr (.inr (.inr (foA 1 A2))))))] ++ (va_pl ((List.range 1).map ra) (lF G Dm))) → va_S A s.heap H locs → ∀ ls : Array Slot, lv_has ls 14 [(0, .ref h), (1, .int (nI mo2)), (2, .int (nI 1)), (3, .ref oq), (4, .int (nI rk)), (5, .int (nI c))] → W P9 l e9 rm_c_rank_1 s m9 args below meth c9 H locs 51 450 Q (F0 m9 104 ls []) by
      exact L3 _ 0 0 Dv ra (Nat.add_sub_cancel' (by omega)) hR0 (⟨hra9, hra⟩) _ _ (gtP hP [0, 1] rfl) (gtD hD [0, 1] (by decide) rfl) hS _ (lv_sub hl [2, 3, 4, 5, 1, 0] rfl)
    intro n3
    induction n3 with
    | zero =>
      intro c rk Dm A2 hi3 hR hm2 H locs hP hD hS ls hl
      refine lv_iload hx hb dL_rank_104 (lv_at hl 5 rfl) ?_
      refine lv_bipush (v := nI 8) hx hb dL_rank_106 (by decide) ?_
      refine gN_ge (tgt := 259) hx hb dL_rank_108 (by decide) (by omega) (by decide) (fun c4 => ?_) (fun c4 => absurd c4 (by omega))
      refine lv_iload hx hb dL_rank_259 (lv_at hl 4 rfl) ?_
      have hrk9 := hR.1
      have ec9 : c = 8 := by omega
      exact gIret (hQ := hQ) hx hb hr hlocks hP hD hS rk ⟨(by have h9 := hR.2.2.2.1; rw [ec9] at h9; exact h9), (show rk ≤ 50 by omega)⟩ (by rfl) [0] (by decide) (by rfl) (Nat.le_of_ble_eq_true rfl) (Nat.le_of_ble_eq_true rfl) dL_rank_261
    | succ n3 ih3 =>
      intro c rk Dm A2 hi3 hR hm2 H locs hP hD hS ls hl
      refine lv_iload hx hb dL_rank_104 (lv_at hl 5 rfl) ?_
      refine lv_bipush (v := nI 8) hx hb dL_rank_106 (by decide) ?_
      refine gN_ge (tgt := 259) hx hb dL_rank_108 (by decide) (by omega) (by decide) (fun c5 => absurd c5 (by omega)) (fun c5 => ?_)
      have hrk := hR.1
      refine lv_iload hx hb dL_rank_111 (lv_at hl 4 rfl) ?_
      refine lv_istore (lv' := [(6, .int (nI rk)), (0, .ref h), (1, .int (nI mo2)), (2, .int (nI 1)), (3, .ref oq), (4, .int (nI rk)), (5, .int (nI c))]) hx hb dL_rank_113 hl (by decide) rfl (fun ls hl => ?_)
      suffices L6 : ∀ (n4 pi : Nat), pi + n4 = 1 → (rk ≤ pi ∧ ∀ i, rk ≤ i → i < pi → Dm (A2 i) c = 0) → ∀ (H : Heap) (locs : List Loc), va_P (gD G) vwCl ([(h, .inr (2, [.int (nI mo), .ref (G.2.2.2 0), .int (nI 0)])), (oq, .inl (G.2.2.1 3, 1, .inr (.inr (.inr (.inr (foA 1 A2))))))] ++ (va_pl ((List.range 1).map ra) (lF G Dm))) H → va_D A ([(h, .inr (2, [.int (nI mo), .ref (G.2.2.2 0), .int (nI 0)])), (oq, .inl (G.2.2.1 3, 1, .inr (.inr (.inr (.inr (foA 1 A2))))))] ++ (va_pl ((List.range 1).map ra) (lF G Dm))) → va_S A s.heap H locs → ∀ ls : Array Slot, lv_has ls 14 [(0, .ref h), (1, .int (nI mo2)), (2, .int (nI 1)), (3, .ref oq), (4, .int (nI rk)), (5, .int (nI c)), (6, .int (nI pi))] → W P9 l e9 rm_c_rank_1 s m9 args below meth c9 H locs 51 450 Q (F0 m9 115 ls []) by
        exact L6 _ rk  (Nat.add_sub_cancel' (by omega)) (⟨Nat.le_refl rk, (fun i h1 h2 => absurd h2 (by omega))⟩) _ _ (gtP hP [0, 1] rfl) (gtD hD [0, 1] (by decide) rfl) hS _ (lv_sub hl [1, 2, 3, 4, 5, 6, 0] rfl)
      intro n4
      induction n4 with
      | zero =>
        intro pi hi4 hz H locs hP hD hS ls hl
        refine lv_iload hx hb dL_rank_115 (lv_at hl 6 rfl) ?_
        refine lv_iload_n hx hb dL_rank_117 rfl (lv_at hl 2 rfl) ?_
        refine gN_ge (tgt := 139) hx hb dL_rank_118 (by decide) (by omega) (by decide) (fun c7 => ?_) (fun c7 => absurd c7 (by omega))
        refine lv_iload hx hb dL_rank_139 (lv_at hl 6 rfl) ?_
        refine lv_iload_n hx hb dL_rank_141 rfl (lv_at hl 2 rfl) ?_
        refine gN_ne (tgt := 148) hx hb dL_rank_142 (by decide) (by omega) (by omega) (fun c142 => absurd (show pi = 1 by omega) c142) (fun c142 => ?_)
        refine lv_goto (tgt := 253) hx hb dL_rank_145 (by decide) ?_
        refine lv_iinc (lv' := [(5, .int (nI (c + 1))), (0, .ref h), (1, .int (nI mo2)), (2, .int (nI 1)), (3, .ref oq), (4, .int (nI rk)), (6, .int (nI pi))]) hx hb dL_rank_253 hl (k := 5) rfl (n_inc _) (by decide) rfl (fun ls hl => ?_)
        refine lv_goto (tgt := 104) hx hb dL_rank_256 (by decide) ?_
        exact ih3 (c + 1) rk Dm A2 (by omega) (RkI_skip hR (by omega) (fun i h1 h2 => hz.2 i h1 (by omega))) hm2 _ _ (gtP hP [0, 1] rfl) (gtD hD [0, 1] (by decide) rfl) hS _ (lv_sub hl [1, 2, 3, 4, 5, 0] rfl)
      | succ n4 ih4 =>
        intro pi hi4 hz H locs hP hD hS ls hl
        refine lv_iload hx hb dL_rank_115 (lv_at hl 6 rfl) ?_
        refine lv_iload_n hx hb dL_rank_117 rfl (lv_at hl 2 rfl) ?_
        refine gN_ge (tgt := 139) hx hb dL_rank_118 (by decide) (by omega) (by decide) (fun c8 => absurd c8 (by omega)) (fun c8 => ?_)
        refine lv_aload_n hx hb dL_rank_121 rfl (lv_at hl 3 rfl) ?_
        refine lv_iload hx hb dL_rank_122 (lv_at hl 6 rfl) ?_
        refine gR_aald hx hb hK hP 1 3 rfl rfl (by omega) (by decide) (if_pos (by omega)) dL_rank_124 ?_
        refine lv_iload hx hb dL_rank_125 (lv_at hl 5 rfl) ?_
        refine gL_ald (X := [(h, .inr (2, [.int (nI mo), .ref (G.2.2.2 0), .int (nI 0)])), (oq, .inl (G.2.2.1 3, 1, .inr (.inr (.inr (.inr (foA 1 A2))))))]) (D := Dm) hx hb hK hP (hm2.1 pi (by omega)) (by omega) dL_rank_127 ?_
        refine lv_lconst (v := iL 0) hx hb dL_rank_128 rfl ?_
        have hbd : 0 ≤ (Dm (A2 pi) c) ∧ (Dm (A2 pi) c) < 1000003 := hR.2.2.2.2.2 pi (by omega) c (by omega)
        have hzb : zl (Dm (A2 pi) c) := ⟨by have := hbd.1; omega, by have := hbd.2; omega⟩
        refine gL_ne0 (tgt := 139) hx hb dL_rank_129 dL_rank_130 (by decide) hzb (fun c129 => ?_) (fun c129 => ?_)
        · refine lv_iload hx hb dL_rank_139 (lv_at hl 6 rfl) ?_
          refine lv_iload_n hx hb dL_rank_141 rfl (lv_at hl 2 rfl) ?_
          refine gN_ne (tgt := 148) hx hb dL_rank_142 (by decide) (by omega) (by omega) (fun c142 => ?_) (fun c142 => absurd c142 (by omega))
          refine lv_aload_n hx hb dL_rank_148 rfl (lv_at hl 3 rfl) ?_
          refine lv_iload hx hb dL_rank_149 (lv_at hl 6 rfl) ?_
          refine gR_aald hx hb hK hP 1 3 rfl rfl (by omega) (by decide) (if_pos (by omega)) dL_rank_151 ?_
          refine lv_astore (lv' := [(7, .ref (A2 pi)), (0, .ref h), (1, .int (nI mo2)), (2, .int (nI 1)), (3, .ref oq), (4, .int (nI rk)), (5, .int (nI c)), (6, .int (nI pi))]) hx hb dL_rank_152 hl (by decide) rfl (fun ls hl => ?_)
          refine lv_aload_n hx hb dL_rank_154 rfl (lv_at hl 4 rfl) ?_
          refine lv_iload hx hb dL_rank_155 (lv_at hl 7 rfl) ?_
          refine lv_aload_n hx hb dL_rank_157 rfl (lv_at hl 4 rfl) ?_
          refine lv_iload hx hb dL_rank_158 (lv_at hl 5 rfl) ?_
          refine gR_aald hx hb hK hP 1 3 rfl rfl (by omega) (by decide) (if_pos (by omega)) dL_rank_160 ?_
          refine gR_ast (X := [(h, .inr (2, [.int (nI mo), .ref (G.2.2.2 0), .int (nI 0)])), (oq, .inl (G.2.2.1 3, 1, .inr (.inr (.inr (.inr (foA 1 A2))))))]) (q0 := 1) (f := foA 1 A2) (x := (8, .inr (.inl (lA (Dm (A2 rk)))))) hx hb hE hK hP hD hS 3 0 rfl hE.2.1.1.2.1 (hK.2 2 _ rfl).2 rfl (hm2.1 rk (by omega)) rfl (by omega) (by omega) dL_rank_161 (fun H locs hP hD hS => ?_)
          have hfU := foU (n := 1) (p := pi) (x := (A2 rk)) (A := A2) (by omega)
          have hP : va_P (gD G) vwCl ([(h, .inr (2, [.int (nI mo), .ref (G.2.2.2 0), .int (nI 0)])), (oq, .inl (G.2.2.1 3, 1, .inr (.inr (.inr (.inr (va_up (foA 1 A2) pi (some (A2 rk))))))))] ++ (va_pl ((List.range 1).map ra) (lF G Dm))) H := hP
          have hD : va_D A ([(h, .inr (2, [.int (nI mo), .ref (G.2.2.2 0), .int (nI 0)])), (oq, .inl (G.2.2.1 3, 1, .inr (.inr (.inr (.inr (va_up (foA 1 A2) pi (some (A2 rk))))))))] ++ (va_pl ((List.range 1).map ra) (lF G Dm))) := hD
          rw [hfU] at hP hD
          have hP : va_P (gD G) vwCl ([(h, .inr (2, [.int (nI mo), .ref (G.2.2.2 0), .int (nI 0)])), (oq, .inl (G.2.2.1 3, 1, .inr (.inr (.inr (.inr (foA 1 (va_up A2 pi (A2 rk))))))))] ++ (va_pl ((List.range 1).map ra) (lF G Dm))) H := hP
          have hD : va_D A ([(h, .inr (2, [.int (nI mo), .ref (G.2.2.2 0), .int (nI 0)])), (oq, .inl (G.2.2.1 3, 1, .inr (.inr (.inr (.inr (foA 1 (va_up A2 pi (A2 rk))))))))] ++ (va_pl ((List.range 1).map ra) (lF G Dm))) := hD
          refine lv_aload_n hx hb dL_rank_162 rfl (lv_at hl 4 rfl) ?_
          refine lv_iload hx hb dL_rank_163 (lv_at hl 5 rfl) ?_
          refine lv_aload hx hb dL_rank_165 (lv_at hl 0 rfl) ?_
          refine gR_ast (X := [(h, .inr (2, [.int (nI mo), .ref (G.2.2.2 0), .int (nI 0)])), (oq, .inl (G.2.2.1 3, 1, .inr (.inr (.inr (.inr (foA 1 (va_up A2 pi (A2 rk))))))))]) (q0 := 1) (f := foA 1 (va_up A2 pi (A2 rk))) (x := (8, .inr (.inl (lA (Dm (A2 pi)))))) hx hb hE hK hP hD hS 3 0 rfl hE.2.1.1.2.1 (hK.2 2 _ rfl).2 rfl (hm2.1 pi (by omega)) rfl (by omega) (by omega) dL_rank_167 (fun H locs hP hD hS => ?_)
          have hfU := foU (n := 1) (p := rk) (x := (A2 pi)) (A := (va_up A2 pi (A2 rk))) (by omega)
          have hP : va_P (gD G) vwCl ([(h, .inr (2, [.int (nI mo), .ref (G.2.2.2 0), .int (nI 0)])), (oq, .inl (G.2.2.1 3, 1, .inr (.inr (.inr (.inr (va_up (foA 1 (va_up A2 pi (A2 rk))) rk (some (A2 pi))))))))] ++ (va_pl ((List.range 1).map ra) (lF G Dm))) H := hP
          have hD : va_D A ([(h, .inr (2, [.int (nI mo), .ref (G.2.2.2 0), .int (nI 0)])), (oq, .inl (G.2.2.1 3, 1, .inr (.inr (.inr (.inr (va_up (foA 1 (va_up A2 pi (A2 rk))) rk (some (A2 pi))))))))] ++ (va_pl ((List.range 1).map ra) (lF G Dm))) := hD
          rw [hfU] at hP hD
          have hP : va_P (gD G) vwCl ([(h, .inr (2, [.int (nI mo), .ref (G.2.2.2 0), .int (nI 0)])), (oq, .inl (G.2.2.1 3, 1, .inr (.inr (.inr (.inr (foA 1 (va_up (va_up A2 pi (A2 rk)) rk (A2 pi))))))))] ++ (va_pl ((List.range 1).map ra) (lF G Dm))) H := hP
          have hD : va_D A ([(h, .inr (2, [.int (nI mo), .ref (G.2.2.2 0), .int (nI 0)])), (oq, .inl (G.2.2.1 3, 1, .inr (.inr (.inr (.inr (foA 1 (va_up (va_up A2 pi (A2 rk)) rk (A2 pi))))))))] ++ (va_pl ((List.range 1).map ra) (lF G Dm))) := hD
          obtain ⟨A3, hA3⟩ : ∃ z, z = (va_up (va_up A2 pi (A2 rk)) rk (A2 pi)) := ⟨_, rfl⟩
          rw [← hA3] at hP hD
          have hP : va_P (gD G) vwCl ([(h, .inr (2, [.int (nI mo), .ref (G.2.2.2 0), .int (nI 0)])), (oq, .inl (G.2.2.1 3, 1, .inr (.inr (.inr (.inr (foA 1 A3))))))] ++ (va_pl ((List.range 1).map ra) (lF G Dm))) H := hP
          have hD : va_D A ([(h, .inr (2, [.int (nI mo), .ref (G.2.2.2 0), .int (nI 0)])), (oq, .inl (G.2.2.1 3, 1, .inr (.inr (.inr (.inr (foA 1 A3))))))] ++ (va_pl ((List.range 1).map ra) (lF G Dm))) := hD
          have hk1 : A3 rk = A2 pi := by rw [hA3, va_up_self]
          have hk2 : A3 pi = A2 rk := by
              rw [hA3]
              by_cases e9 : pi = rk
              · rw [e9, va_up_self]
              · rw [va_up_ne _ _ e9, va_up_self]
          have hk3 : ∀ i, i ≠ rk → i ≠ pi → A3 i = A2 i := fun i h1 h2 => by rw [hA3, va_up_ne _ _ h1, va_up_ne _ _ h2]
          have hR3 : RkI (fun u => ∃ i, i < 1 ∧ u = bv ((fun _ => mo2) i)) 1 (fun i => Dm (A3 i)) c rk := RkI_swap hR hz.1 (by omega) (congrArg Dm hk1) (congrArg Dm hk2) (fun i h1 h2 => congrArg Dm (hk3 i h1 h2))
          have hm3 : (∀ i, i < 1 → A3 i ∈ ((List.range 1).map ra)) ∧ ∀ i j, i < 1 → j < 1 → A3 i = A3 j → i = j := swap_ok hm2.1 hm2.2 hk1 hk2 hk3 (by omega) (by omega)
          have hnz : Dm (A3 rk) c ≠ 0 := by rw [hk1]; exact c129
          rw [← hk1] at hl
          have hl : lv_has ls 14 [(7, .ref (A3 rk)), (0, .ref h), (1, .int (nI mo2)), (2, .int (nI 1)), (3, .ref oq), (4, .int (nI rk)), (5, .int (nI c)), (6, .int (nI pi))] := hl
          refine lv_iload hx hb dL_rank_168 (lv_at hl 5 rfl) ?_
          refine lv_iconst (v := nI 1) hx hb dL_rank_170 (by decide) ?_
          refine lv_iadd hx hb dL_rank_171 ?_
          refine gTop (y := (nI (rk + 1))) (nI_add _ _) ?_
          refine lv_istore (lv' := [(8, .int (nI (rk + 1))), (7, .ref (A3 rk)), (0, .ref h), (1, .int (nI mo2)), (2, .int (nI 1)), (3, .ref oq), (4, .int (nI rk)), (5, .int (nI c)), (6, .int (nI pi))]) hx hb dL_rank_172 hl (by decide) rfl (fun ls hl => ?_)
          suffices L9 : ∀ (n5 r : Nat) (Dn : Nat → Nat → Int), r + n5 = 1 → (rk + 1 ≤ r ∧ (∀ i, i < 1 → (i ≤ rk ∨ r ≤ i) → ∀ k, k < 8 → Dn (A3 i) k = Dm (A3 i) k) ∧ ∀ i, rk < i → i < r → ∀ k, k < 8 → Dn (A3 i) k = (Dm (A3 i) k * Dm (A3 rk) c - Dm (A3 rk) k * Dm (A3 i) c) % 1000003) → ∀ (H : Heap) (locs : List Loc), va_P (gD G) vwCl ([(h, .inr (2, [.int (nI mo), .ref (G.2.2.2 0), .int (nI 0)])), (oq, .inl (G.2.2.1 3, 1, .inr (.inr (.inr (.inr (foA 1 A3))))))] ++ (va_pl ((List.range 1).map ra) (lF G Dn))) H → va_D A ([(h, .inr (2, [.int (nI mo), .ref (G.2.2.2 0), .int (nI 0)])), (oq, .inl (G.2.2.1 3, 1, .inr (.inr (.inr (.inr (foA 1 A3))))))] ++ (va_pl ((List.range 1).map ra) (lF G Dn))) → va_S A s.heap H locs → ∀ ls : Array Slot, lv_has ls 14 [(0, .ref h), (1, .int (nI mo2)), (2, .int (nI 1)), (3, .ref oq), (4, .int (nI rk)), (5, .int (nI c)), (7, .ref (A3 rk)), (8, .int (nI r))] → W P9 l e9 rm_c_rank_1 s m9 args below meth c9 H locs 51 450 Q (F0 m9 174 ls []) by
            exact L9 _ (rk + 1) Dm (Nat.add_sub_cancel' (by omega)) (⟨Nat.le_refl _, (fun i _ _ k _ => rfl), (fun i h1 h2 => absurd h2 (by omega))⟩) _ _ (gtP hP [0, 1] rfl) (gtD hD [0, 1] (by decide) rfl) hS _ (lv_sub hl [2, 3, 4, 5, 6, 7, 1, 0] rfl)
          intro n5
          induction n5 with
          | zero =>
            intro r Dn hi5 hEE H locs hP hD hS ls hl
            refine lv_iload hx hb dL_rank_174 (lv_at hl 7 rfl) ?_
            refine lv_iload_n hx hb dL_rank_176 rfl (lv_at hl 2 rfl) ?_
            refine gN_ge (tgt := 250) hx hb dL_rank_177 (by decide) (by omega) (by decide) (fun c10 => ?_) (fun c10 => absurd c10 (by omega))
            refine lv_iinc (lv' := [(4, .int (nI (rk + 1))), (0, .ref h), (1, .int (nI mo2)), (2, .int (nI 1)), (3, .ref oq), (5, .int (nI c)), (7, .ref (A3 rk)), (8, .int (nI r))]) hx hb dL_rank_250 hl (k := 4) rfl (n_inc _) (by decide) rfl (fun ls hl => ?_)
            refine lv_iinc (lv' := [(5, .int (nI (c + 1))), (4, .int (nI (rk + 1))), (0, .ref h), (1, .int (nI mo2)), (2, .int (nI 1)), (3, .ref oq), (7, .ref (A3 rk)), (8, .int (nI r))]) hx hb dL_rank_253 hl (k := 5) rfl (n_inc _) (by decide) rfl (fun ls hl => ?_)
            refine lv_goto (tgt := 104) hx hb dL_rank_256 (by decide) ?_
            exact ih3 (c + 1) (rk + 1) Dn A3 (by omega) (RkI_piv hR3 (by omega) (by omega) hnz (fun i hi k hk => hEE.2.1 i (by omega) (Or.inl hi) k hk) (fun i hi hin k hk => hEE.2.2 i hi (by omega) k hk)) hm3 _ _ (gtP hP [0, 1] rfl) (gtD hD [0, 1] (by decide) rfl) hS _ (lv_sub hl [2, 3, 4, 5, 1, 0] rfl)
          | succ n5 ih5 =>
            intro r Dn hi5 hEE H locs hP hD hS ls hl
            refine lv_iload hx hb dL_rank_174 (lv_at hl 7 rfl) ?_
            refine lv_iload_n hx hb dL_rank_176 rfl (lv_at hl 2 rfl) ?_
            refine gN_ge (tgt := 250) hx hb dL_rank_177 (by decide) (by omega) (by decide) (fun c11 => absurd c11 (by omega)) (fun c11 => ?_)
            refine lv_aload_n hx hb dL_rank_180 rfl (lv_at hl 3 rfl) ?_
            refine lv_iload hx hb dL_rank_181 (lv_at hl 7 rfl) ?_
            refine gR_aald hx hb hK hP 1 3 rfl rfl (by omega) (by decide) (if_pos (by omega)) dL_rank_183 ?_
            refine lv_iload hx hb dL_rank_184 (lv_at hl 5 rfl) ?_
            refine gL_ald (X := [(h, .inr (2, [.int (nI mo), .ref (G.2.2.2 0), .int (nI 0)])), (oq, .inl (G.2.2.1 3, 1, .inr (.inr (.inr (.inr (foA 1 A3))))))]) (D := Dn) hx hb hK hP (hm3.1 r (by omega)) (by omega) dL_rank_186 ?_
            refine gTopL (y := iL (Dm (A3 r) c)) (congrArg iL (hEE.2.1 r (by omega) (Or.inr (Nat.le_refl r)) c (by omega))) ?_
            refine lv_lstore (lv' := [(9, .long (iL (Dm (A3 r) c))), (0, .ref h), (1, .int (nI mo2)), (2, .int (nI 1)), (3, .ref oq), (4, .int (nI rk)), (5, .int (nI c)), (7, .ref (A3 rk)), (8, .int (nI r))]) hx hb dL_rank_187 hl (by decide) rfl (fun ls hl => ?_)
            refine lv_aload hx hb dL_rank_189 (lv_at hl 7 rfl) ?_
            refine lv_iload hx hb dL_rank_191 (lv_at hl 6 rfl) ?_
            refine gL_ald (X := [(h, .inr (2, [.int (nI mo), .ref (G.2.2.2 0), .int (nI 0)])), (oq, .inl (G.2.2.1 3, 1, .inr (.inr (.inr (.inr (foA 1 A3))))))]) (D := Dn) hx hb hK hP (hm3.1 rk (by omega)) (by omega) dL_rank_193 ?_
            refine gTopL (y := iL (Dm (A3 rk) c)) (congrArg iL (hEE.2.1 rk (by omega) (Or.inl (Nat.le_refl rk)) c (by omega))) ?_
            refine lv_lstore (lv' := [(11, .long (iL (Dm (A3 rk) c))), (9, .long (iL (Dm (A3 r) c))), (0, .ref h), (1, .int (nI mo2)), (2, .int (nI 1)), (3, .ref oq), (4, .int (nI rk)), (5, .int (nI c)), (7, .ref (A3 rk)), (8, .int (nI r))]) hx hb dL_rank_194 hl (by decide) rfl (fun ls hl => ?_)
            refine lv_iconst (v := nI 0) hx hb dL_rank_196 (by decide) ?_
            refine lv_istore (lv' := [(13, .int (nI 0)), (11, .long (iL (Dm (A3 rk) c))), (9, .long (iL (Dm (A3 r) c))), (0, .ref h), (1, .int (nI mo2)), (2, .int (nI 1)), (3, .ref oq), (4, .int (nI rk)), (5, .int (nI c)), (7, .ref (A3 rk)), (8, .int (nI r))]) hx hb dL_rank_197 hl (by decide) rfl (fun ls hl => ?_)
            suffices L12 : ∀ (n6 k : Nat) (Do : Nat → Nat → Int), k + n6 = 8 → ((∀ i, i < 1 → i ≠ r → ∀ k, k < 8 → Do (A3 i) k = Dn (A3 i) k) ∧ ∀ j, j < 8 → Do (A3 r) j = if j < k then (Dm (A3 r) j * Dm (A3 rk) c - Dm (A3 rk) j * Dm (A3 r) c) % 1000003 else Dm (A3 r) j) → ∀ (H : Heap) (locs : List Loc), va_P (gD G) vwCl ([(h, .inr (2, [.int (nI mo), .ref (G.2.2.2 0), .int (nI 0)])), (oq, .inl (G.2.2.1 3, 1, .inr (.inr (.inr (.inr (foA 1 A3))))))] ++ (va_pl ((List.range 1).map ra) (lF G Do))) H → va_D A ([(h, .inr (2, [.int (nI mo), .ref (G.2.2.2 0), .int (nI 0)])), (oq, .inl (G.2.2.1 3, 1, .inr (.inr (.inr (.inr (foA 1 A3))))))] ++ (va_pl ((List.range 1).map ra) (lF G Do))) → va_S A s.heap H locs → ∀ ls : Array Slot, lv_has ls 14 [(0, .ref h), (1, .int (nI mo2)), (2, .int (nI 1)), (3, .ref oq), (4, .int (nI rk)), (5, .int (nI c)), (7, .ref (A3 rk)), (8, .int (nI r)), (9, .long (iL (Dm (A3 r) c))), (11, .long (iL (Dm (A3 rk) c))), (13, .int (nI k))] → W P9 l e9 rm_c_rank_1 s m9 args below meth c9 H locs 51 450 Q (F0 m9 199 ls []) by
              exact L12 _ 0 Dn (Nat.add_sub_cancel' (by omega)) (⟨(fun i _ _ k _ => rfl), (fun j hj => (hEE.2.1 r (by omega) (Or.inr (Nat.le_refl r)) j hj).trans (if_neg (Nat.not_lt_zero j)).symm)⟩) _ _ (gtP hP [0, 1] rfl) (gtD hD [0, 1] (by decide) rfl) hS _ (lv_sub hl [3, 4, 5, 6, 7, 8, 9, 10, 2, 1, 0] rfl)
            intro n6
            induction n6 with
            | zero =>
              intro k Do hi6 hFF H locs hP hD hS ls hl
              refine lv_iload hx hb dL_rank_199 (lv_at hl 10 rfl) ?_
              refine lv_bipush (v := nI 8) hx hb dL_rank_201 (by decide) ?_
              refine gN_ge (tgt := 244) hx hb dL_rank_203 (by decide) (by omega) (by decide) (fun c13 => ?_) (fun c13 => absurd c13 (by omega))
              refine lv_iinc (lv' := [(8, .int (nI (r + 1))), (0, .ref h), (1, .int (nI mo2)), (2, .int (nI 1)), (3, .ref oq), (4, .int (nI rk)), (5, .int (nI c)), (7, .ref (A3 rk)), (9, .long (iL (Dm (A3 r) c))), (11, .long (iL (Dm (A3 rk) c))), (13, .int (nI k))]) hx hb dL_rank_244 hl (k := 7) rfl (n_inc _) (by decide) rfl (fun ls hl => ?_)
              refine lv_goto (tgt := 174) hx hb dL_rank_247 (by decide) ?_
              exact ih5 (r + 1) Do (by omega) (⟨by omega, (fun i hi h9 k hk => (hFF.1 i hi (by omega) k hk).trans (hEE.2.1 i hi (by omega) k hk)), (fun i h1 h2 k2 hk => if e9 : i = r then (by rw [e9, hFF.2 k2 hk, if_pos (by omega)]) else (hFF.1 i (by omega) e9 k2 hk).trans (hEE.2.2 i h1 (by omega) k2 hk))⟩) _ _ (gtP hP [0, 1] rfl) (gtD hD [0, 1] (by decide) rfl) hS _ (lv_sub hl [1, 2, 3, 4, 5, 6, 7, 0] rfl)
            | succ n6 ih6 =>
              intro k Do hi6 hFF H locs hP hD hS ls hl
              refine lv_iload hx hb dL_rank_199 (lv_at hl 10 rfl) ?_
              refine lv_bipush (v := nI 8) hx hb dL_rank_201 (by decide) ?_
              refine gN_ge (tgt := 244) hx hb dL_rank_203 (by decide) (by omega) (by decide) (fun c14 => absurd c14 (by omega)) (fun c14 => ?_)
              refine lv_aload_n hx hb dL_rank_206 rfl (lv_at hl 3 rfl) ?_
              refine lv_iload hx hb dL_rank_207 (lv_at hl 7 rfl) ?_
              refine gR_aald hx hb hK hP 1 3 rfl rfl (by omega) (by decide) (if_pos (by omega)) dL_rank_209 ?_
              refine lv_iload hx hb dL_rank_210 (lv_at hl 10 rfl) ?_
              refine lv_aload_n hx hb dL_rank_212 rfl (lv_at hl 3 rfl) ?_
              refine lv_iload hx hb dL_rank_213 (lv_at hl 7 rfl) ?_
              refine gR_aald hx hb hK hP 1 3 rfl rfl (by omega) (by decide) (if_pos (by omega)) dL_rank_215 ?_
              refine lv_iload hx hb dL_rank_216 (lv_at hl 10 rfl) ?_
              refine gL_ald (X := [(h, .inr (2, [.int (nI mo), .ref (G.2.2.2 0), .int (nI 0)])), (oq, .inl (G.2.2.1 3, 1, .inr (.inr (.inr (.inr (foA 1 A3))))))]) (D := Do) hx hb hK hP (hm3.1 r (by omega)) (by omega) dL_rank_218 ?_
              refine gTopL (y := iL (Dm (A3 r) k)) (congrArg iL ((hFF.2 k (by omega)).trans (if_neg (Nat.lt_irrefl k)))) ?_
              refine lv_lload hx hb dL_rank_219 (lv_at hl 9 rfl) ?_
              refine lv_lmul hx hb dL_rank_221 ?_
              refine gTopL (y := iL ((Dm (A3 r) k) * (Dm (A3 rk) c))) (iL_mul _ _) ?_
              refine lv_aload hx hb dL_rank_222 (lv_at hl 6 rfl) ?_
              refine lv_iload hx hb dL_rank_224 (lv_at hl 10 rfl) ?_
              refine gL_ald (X := [(h, .inr (2, [.int (nI mo), .ref (G.2.2.2 0), .int (nI 0)])), (oq, .inl (G.2.2.1 3, 1, .inr (.inr (.inr (.inr (foA 1 A3))))))]) (D := Do) hx hb hK hP (hm3.1 rk (by omega)) (by omega) dL_rank_226 ?_
              refine gTopL (y := iL (Dm (A3 rk) k)) (congrArg iL ((hFF.1 rk (by omega) (by omega) k (by omega)).trans (hEE.2.1 rk (by omega) (Or.inl (Nat.le_refl rk)) k (by omega)))) ?_
              refine lv_lload hx hb dL_rank_227 (lv_at hl 8 rfl) ?_
              refine lv_lmul hx hb dL_rank_229 ?_
              refine gTopL (y := iL ((Dm (A3 rk) k) * (Dm (A3 r) c))) (iL_mul _ _) ?_
              refine lv_lsub hx hb dL_rank_230 ?_
              refine gTopL (y := iL (((Dm (A3 r) k) * (Dm (A3 rk) c)) - ((Dm (A3 rk) k) * (Dm (A3 r) c)))) (iL_sub _ _) ?_
              refine lv_ldc2 (v := 1000003) hx hb hown (hts (.constantLong RL 40 (1000003)) (by decide +kernel)) dL_rank_231 ?_
              refine gTopL (y := iL 1000003) rfl ?_
              have hb1 := mulq (x := Dm (A3 r) k) (y := Dm (A3 rk) c) (hR3.2.2.2.2.2 r (by omega) k (by omega)) (hR3.2.2.2.2.2 rk (by omega) c (by omega))
              have hb2 := mulq (x := Dm (A3 rk) k) (y := Dm (A3 r) c) (hR3.2.2.2.2.2 rk (by omega) k (by omega)) (hR3.2.2.2.2.2 r (by omega) c (by omega))
              have hzb2 : zl (((Dm (A3 r) k) * (Dm (A3 rk) c)) - ((Dm (A3 rk) k) * (Dm (A3 r) c))) := ⟨by have := hb1.1; have := hb2.2; omega, by have := hb1.2; have := hb2.1; omega⟩
              refine gL_fm (z := (((Dm (A3 r) k) * (Dm (A3 rk) c)) - ((Dm (A3 rk) k) * (Dm (A3 r) c)))) hx hb (hml.trans hl.1.symm) hown (hts (.methodLink RL 42 yJ9_floorMod_f86c9) (by decide +kernel)) (hts (.static yJ9_floorMod_f86c9) (by decide +kernel)) (hts (.initialized RJ9) (by decide +kernel)) (hts (.code yJ9_floorMod_f86c9 cJ9_floorMod_f86c9 6 (some .long)) (by decide +kernel)) (Nat.le_of_ble_eq_true rfl) (Nat.le_of_ble_eq_true rfl) (Nat.le_of_ble_eq_true rfl) (Nat.le_of_ble_eq_true rfl) hzb2 dL_rank_234 ?_
              refine gL_ast (X := [(h, .inr (2, [.int (nI mo), .ref (G.2.2.2 0), .int (nI 0)])), (oq, .inl (G.2.2.1 3, 1, .inr (.inr (.inr (.inr (foA 1 A3))))))]) (D := Do) hx hb hK hP hD hS (hm3.1 r (by omega)) (by omega) dL_rank_237 (fun H locs hP hD hS => ?_)
              have hP : va_P (gD G) vwCl ([(h, .inr (2, [.int (nI mo), .ref (G.2.2.2 0), .int (nI 0)])), (oq, .inl (G.2.2.1 3, 1, .inr (.inr (.inr (.inr (foA 1 A3))))))] ++ (va_pl ((List.range 1).map ra) (lF G (va_up Do (A3 r) (va_up (Do (A3 r)) k ((((Dm (A3 r) k) * (Dm (A3 rk) c)) - ((Dm (A3 rk) k) * (Dm (A3 r) c))) % 1000003)))))) H := hP
              have hD : va_D A ([(h, .inr (2, [.int (nI mo), .ref (G.2.2.2 0), .int (nI 0)])), (oq, .inl (G.2.2.1 3, 1, .inr (.inr (.inr (.inr (foA 1 A3))))))] ++ (va_pl ((List.range 1).map ra) (lF G (va_up Do (A3 r) (va_up (Do (A3 r)) k ((((Dm (A3 r) k) * (Dm (A3 rk) c)) - ((Dm (A3 rk) k) * (Dm (A3 r) c))) % 1000003)))))) := hD
              refine lv_iinc (lv' := [(13, .int (nI (k + 1))), (0, .ref h), (1, .int (nI mo2)), (2, .int (nI 1)), (3, .ref oq), (4, .int (nI rk)), (5, .int (nI c)), (7, .ref (A3 rk)), (8, .int (nI r)), (9, .long (iL (Dm (A3 r) c))), (11, .long (iL (Dm (A3 rk) c)))]) hx hb dL_rank_238 hl (k := 10) rfl (n_inc _) (by decide) rfl (fun ls hl => ?_)
              refine lv_goto (tgt := 199) hx hb dL_rank_241 (by decide) ?_
              exact ih6 (k + 1) (va_up Do (A3 r) (va_up (Do (A3 r)) k ((((Dm (A3 r) k) * (Dm (A3 rk) c)) - ((Dm (A3 rk) k) * (Dm (A3 r) c))) % 1000003))) (by omega) (⟨(fun i hi hir j hj => by rw [va_up_ne _ _ (fun z => hir (hm3.2 _ _ (by omega) (by omega) z))]; exact hFF.1 i hi hir j hj), (fun j hj => by
                    rw [va_up_self]
                    by_cases e9 : j = k
                    · rw [e9, va_up_self, if_pos (Nat.lt_succ_self k)]
                    · rw [va_up_ne _ _ e9, hFF.2 j hj]
                      by_cases e8 : j < k
                      · rw [if_pos e8, if_pos (by omega)]
                      · rw [if_neg e8, if_neg (by omega)])⟩) _ _ (gtP hP [0, 1] rfl) (gtD hD [0, 1] (by decide) rfl) hS _ (lv_sub hl [1, 2, 3, 4, 5, 6, 7, 8, 9, 10, 0] rfl)
        · refine lv_iinc (lv' := [(6, .int (nI (pi + 1))), (0, .ref h), (1, .int (nI mo2)), (2, .int (nI 1)), (3, .ref oq), (4, .int (nI rk)), (5, .int (nI c))]) hx hb dL_rank_133 hl (k := 6) rfl (n_inc _) (by decide) rfl (fun ls hl => ?_)
          refine lv_goto (tgt := 115) hx hb dL_rank_136 (by decide) ?_
          exact ih4 (pi + 1)  (by omega) (⟨by omega, (fun i h1 h2 => if e9 : i = pi then (by rw [e9]; exact c129) else hz.2 i h1 (by omega))⟩) _ _ (gtP hP [0, 1] rfl) (gtD hD [0, 1] (by decide) rfl) hS _ (lv_sub hl [1, 2, 3, 4, 5, 6, 0] rfl)
  | succ n1 ih1 =>
    intro r Dv hi1 hD1 H locs hP hD hS ls hl
    refine lv_iload hx hb dL_rank_28 (lv_at hl 4 rfl) ?_
    refine lv_iload_n hx hb dL_rank_30 rfl (lv_at hl 2 rfl) ?_
    refine gN_ge (tgt := 98) hx hb dL_rank_31 (by decide) (by omega) (by decide) (fun c15 => absurd c15 (by omega)) (fun c15 => ?_)
    refine lv_iconst (v := nI 0) hx hb dL_rank_34 (by decide) ?_
    refine lv_istore (lv' := [(5, .int (nI 0)), (0, .ref h), (1, .int (nI mo2)), (2, .int (nI 1)), (3, .ref oq), (4, .int (nI r))]) hx hb dL_rank_35 hl (by decide) rfl (fun ls hl => ?_)
    suffices L16 : ∀ (n2 k : Nat) (Dw : Nat → Nat → Int), k + n2 = 8 → ((∀ i, i < r → ∀ k, k < 8 → Dw (ra i) k = bv ((fun _ => mo2) i) k) ∧ ∀ j, j < k → Dw (ra r) j = bv ((fun _ => mo2) r) j) → ∀ (H : Heap) (locs : List Loc), va_P (gD G) vwCl ([(h, .inr (2, [.int (nI mo), .ref (G.2.2.2 0), .int (nI 0)])), (oq, .inl (G.2.2.1 3, 1, .inr (.inr (.inr (.inr (foA 1 ra))))))] ++ (va_pl ((List.range 1).map ra) (lF G Dw))) H → va_D A ([(h, .inr (2, [.int (nI mo), .ref (G.2.2.2 0), .int (nI 0)])), (oq, .inl (G.2.2.1 3, 1, .inr (.inr (.inr (.inr (foA 1 ra))))))] ++ (va_pl ((List.range 1).map ra) (lF G Dw))) → va_S A s.heap H locs → ∀ ls : Array Slot, lv_has ls 14 [(0, .ref h), (1, .int (nI mo2)), (2, .int (nI 1)), (3, .ref oq), (4, .int (nI r)), (5, .int (nI k))] → W P9 l e9 rm_c_rank_1 s m9 args below meth c9 H locs 51 450 Q (F0 m9 37 ls []) by
      exact L16 _ 0 Dv (Nat.add_sub_cancel' (by omega)) (⟨hD1, (fun j hj => absurd hj (Nat.not_lt_zero j))⟩) _ _ (gtP hP [0, 1] rfl) (gtD hD [0, 1] (by decide) rfl) hS _ (lv_sub hl [1, 2, 3, 4, 5, 0] rfl)
    intro n2
    induction n2 with
    | zero =>
      intro k Dw hi2 hD2 H locs hP hD hS ls hl
      refine lv_iload hx hb dL_rank_37 (lv_at hl 5 rfl) ?_
      refine lv_bipush (v := nI 8) hx hb dL_rank_39 (by decide) ?_
      refine gN_ge (tgt := 92) hx hb dL_rank_41 (by decide) (by omega) (by decide) (fun c17 => ?_) (fun c17 => absurd c17 (by omega))
      refine lv_iinc (lv' := [(4, .int (nI (r + 1))), (0, .ref h), (1, .int (nI mo2)), (2, .int (nI 1)), (3, .ref oq), (5, .int (nI k))]) hx hb dL_rank_92 hl (k := 4) rfl (n_inc _) (by decide) rfl (fun ls hl => ?_)
      refine lv_goto (tgt := 28) hx hb dL_rank_95 (by decide) ?_
      exact ih1 (r + 1) Dw (by omega) (fun i hi j hj => if e9 : i = r then (by rw [e9]; exact hD2.2 j (by omega)) else hD2.1 i (by omega) j hj) _ _ (gtP hP [0, 1] rfl) (gtD hD [0, 1] (by decide) rfl) hS _ (lv_sub hl [1, 2, 3, 4, 0] rfl)
    | succ n2 ih2 =>
      intro k Dw hi2 hD2 H locs hP hD hS ls hl
      refine lv_iload hx hb dL_rank_37 (lv_at hl 5 rfl) ?_
      refine lv_bipush (v := nI 8) hx hb dL_rank_39 (by decide) ?_
      refine gN_ge (tgt := 92) hx hb dL_rank_41 (by decide) (by omega) (by decide) (fun c18 => absurd c18 (by omega)) (fun c18 => ?_)
      refine lv_aload_n hx hb dL_rank_44 rfl (lv_at hl 3 rfl) ?_
      refine lv_iload hx hb dL_rank_45 (lv_at hl 4 rfl) ?_
      refine gR_aald hx hb hK hP 1 3 rfl rfl (by omega) (by decide) (if_pos (by omega)) dL_rank_47 ?_
      refine lv_iload hx hb dL_rank_48 (lv_at hl 5 rfl) ?_
      refine lv_iload hx hb dL_rank_50 (lv_at hl 4 rfl) ?_
      refine lv_aload_n hx hb dL_rank_52 rfl (lv_at hl 0 rfl) ?_
      refine gCFJ (ci := 2) (q0 := 0) (C := RJx4a65c) (As := []) (rest := [.int (nI r), .int (nI k), .ref (ra r)]) hE (c_L_size l G h mo (.ref (G.2.2.2 0)) 0) (va_cwF 0 hts gL_rank_Jx4a65c_size_8abf5_f23Jx4a65c rfl rfl rfl (hE.face 0 rfl) (by decide +kernel) ⟨Nat.le_of_ble_eq_true rfl, Nat.le_of_ble_eq_true rfl⟩) (hK.1 2 _ rfl).2 ⟨hx, hb, hml, hown, hts⟩ hK hP hD hS hA (gJnQ (wr := [(oq, .inl (G.2.2.1 3, 1, .inr (.inr (.inr (.inr (foA 1 ra))))))]) [0] [1] rfl rfl (by decide) (by decide) (by decide)) rfl rfl rfl hl rfl (Nat.le_of_ble_eq_true rfl) dL_rank_53 ⟨Nat.le_of_ble_eq_true rfl, Nat.le_of_ble_eq_true rfl⟩ (fun u9 H locs hu hP hD hS => ?_)
      have hP : va_P (gD G) vwCl ([(oq, .inl (G.2.2.1 3, 1, .inr (.inr (.inr (.inr (foA 1 ra)))))), (h, .inr (2, [.int (nI mo), .ref (G.2.2.2 0), .int (nI 0)]))] ++ (va_pl ((List.range 1).map ra) (lF G Dw))) H := hP
      have hD : va_D A ([(oq, .inl (G.2.2.1 3, 1, .inr (.inr (.inr (.inr (foA 1 ra)))))), (h, .inr (2, [.int (nI mo), .ref (G.2.2.2 0), .int (nI 0)]))] ++ (va_pl ((List.range 1).map ra) (lF G Dw))) := hD
      refine W.eq (g2 := F0 m9 58 ls [.int (nI 0), .int (nI r), .int (nI k), .ref (ra r)]) rfl ?_
      refine gN_ge (tgt := 78) hx hb dL_rank_58 (by decide) (by omega) (by decide) (fun c19 => ?_) (fun c19 => absurd c19 (by omega))
      refine lv_iload_n hx hb dL_rank_78 rfl (lv_at hl 1 rfl) ?_
      refine lv_iload hx hb dL_rank_79 (lv_at hl 5 rfl) ?_
      have hx64 : mo2 < 64 := hm
      have hxk : mo2 / 2 ^ k < 64 := Nat.lt_of_le_of_lt (Nat.div_le_self _ _) hx64
      have hxk1 : mo2 / 2 ^ k &&& 1 < 64 := Nat.lt_of_le_of_lt Nat.and_le_left hxk
      refine lv_ishr hx hb dL_rank_81 ?_
      refine gTop (y := (nI (mo2 / 2 ^ k))) (n_shr (by omega) (by omega)) ?_
      refine lv_iconst (v := nI 1) hx hb dL_rank_82 (by decide) ?_
      refine lv_iand hx hb dL_rank_83 ?_
      refine gTop (y := (nI ((mo2 / 2 ^ k) &&& 1))) (n_and _ _) ?_
      refine lv_i2l (v := iL (((mo2 / 2 ^ k) &&& 1 : Nat) : Int)) hx hb dL_rank_84 (iL_of (by omega)) ?_
      refine gL_ast (X := [(oq, .inl (G.2.2.1 3, 1, .inr (.inr (.inr (.inr (foA 1 ra)))))), (h, .inr (2, [.int (nI mo), .ref (G.2.2.2 0), .int (nI 0)]))]) (D := Dw) hx hb hK hP hD hS (hra9 r (by omega)) (by omega) dL_rank_85 (fun H locs hP hD hS => ?_)
      have hP : va_P (gD G) vwCl ([(oq, .inl (G.2.2.1 3, 1, .inr (.inr (.inr (.inr (foA 1 ra)))))), (h, .inr (2, [.int (nI mo), .ref (G.2.2.2 0), .int (nI 0)]))] ++ (va_pl ((List.range 1).map ra) (lF G (va_up Dw (ra r) (va_up (Dw (ra r)) k (((mo2 / 2 ^ k) &&& 1 : Nat) : Int)))))) H := hP
      have hD : va_D A ([(oq, .inl (G.2.2.1 3, 1, .inr (.inr (.inr (.inr (foA 1 ra)))))), (h, .inr (2, [.int (nI mo), .ref (G.2.2.2 0), .int (nI 0)]))] ++ (va_pl ((List.range 1).map ra) (lF G (va_up Dw (ra r) (va_up (Dw (ra r)) k (((mo2 / 2 ^ k) &&& 1 : Nat) : Int)))))) := hD
      refine lv_iinc (lv' := [(5, .int (nI (k + 1))), (0, .ref h), (1, .int (nI mo2)), (2, .int (nI 1)), (3, .ref oq), (4, .int (nI r))]) hx hb dL_rank_86 hl (k := 5) rfl (n_inc _) (by decide) rfl (fun ls hl => ?_)
      refine lv_goto (tgt := 37) hx hb dL_rank_89 (by decide) ?_
      exact ih2 (k + 1) (va_up Dw (ra r) (va_up (Dw (ra r)) k (((mo2 / 2 ^ k) &&& 1 : Nat) : Int))) (by omega) (⟨(fun i hi j hj => by rw [va_up_ne _ _ (fun z => absurd (hra _ _ (by omega) (by omega) z) (by omega))]; exact hD2.1 i hi j hj), (fun j hj => by
            rw [va_up_self]
            by_cases e9 : j = k
            · (rw [e9, va_up_self, bvI, (show (fun _ => mo2) r = mo2 from rfl)])
            · (rw [va_up_ne _ _ e9]; exact hD2.2 j (by omega)))⟩) _ _ (gtP hP [1, 0] rfl) (gtD hD [1, 0] (by decide) rfl) hS _ (lv_sub hl [1, 2, 3, 4, 5, 0] rfl)
