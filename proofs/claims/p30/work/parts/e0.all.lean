/-- all 48 rounds -/
theorem lw_all {P9 : Program} {l : Launch} {e9 : Env} {s : State} {m9 : MethodId} {args : Array Value} {below : List Frame} {meth : Method} {c9 : Code} {Q : State → Prop} {G : gG} {A : Nat → Prop} {am ab : Nat → Nat} {ci pe to : Nat} (hX : lX P9 s m9 c9 args G A) (K : ∀ (H : Heap) (locs : List Loc) (ls : Array Slot), va_S A s.heap H locs → W P9 l e9 room_1 s m9 args below meth c9 H locs (100 + 48 * 3200) (2000 + 48 * 83000) Q (F0 m9 955 ls [.int (nI 1)])) : HD P9 l e9 s m9 args below meth c9 Q G A am ab ci pe to 130 0 0 100 2000 := by
  have step : ∀ n, n < 48 → HD P9 l e9 s m9 args below meth c9 Q G A am ab ci pe to 130 (n + 1) (n + 1) (100 + (n + 1) * 3200) (2000 + (n + 1) * 83000) → HD P9 l e9 s m9 args below meth c9 Q G A am ab ci pe to 130 n n (100 + n * 3200) (2000 + n * 83000) := fun n hn h => by
    obtain ⟨c, hc⟩ : ∃ c, c = 100 + n * 3200 := ⟨_, rfl⟩
    obtain ⟨t, ht⟩ : ∃ t, t = 2000 + n * 83000 := ⟨_, rfl⟩
    rw [← hc, ← ht]
    have hc9 : c ≤ 480000 := by omega
    have ht9 : t ≤ 5800000 := by omega
    have h930 : ∀ c2 t2, c2 ≤ c + 3110 → t2 ≤ t + 82400 → HD P9 l e9 s m9 args below meth c9 Q G A am ab ci pe to 930 (n + 1) n c2 t2 := fun c2 t2 h1 h2 => lw_next hX n c2 t2 _ _ hn (by omega) (by omega) h
    have h825 := lw_rep hX n (c + 10 + 2800) (t + 400 + 80000) hn (by omega) (by omega) (h930 _ _ (by omega) (by omega))
    have h709 := lw_tabs hX n (c + 10 + 2800) (t + 400 + 80000) hn (by omega) (by omega) h825
    have h591 := lw_circ hX n (c + 10) (t + 400) hn (by omega) (by omega) h709
    have h580 := lw_tail hX n (c + 10) (t + 400) hn h591 (h930 _ _ (by omega) (by omega))
    exact lw_round hX n c t hn (by omega) (by omega) (lw_kin hX n c t hn (by omega) (by omega) h580) (lw_bar hX n c t hn (by omega) (by omega) h580) (lw_join hX n c t hn (by omega) (by omega) h580) (lw_permit hX n c t hn (by omega) (by omega) h580) (lw_talk hX n c t hn (by omega) (by omega) h580) (lw_ask hX n c t hn (by omega) (by omega) h580)
  have all : ∀ r n, n + r = 48 → HD P9 l e9 s m9 args below meth c9 Q G A am ab ci pe to 130 n n (100 + n * 3200) (2000 + n * 83000) := by
    intro r
    induction r with
    | zero =>
      intro n hn
      have e : n = 48 := hn
      subst e
      exact lw_end hX _ _ (by omega) (by omega) K
    | succ r ih => exact fun n hn => step n (by omega) (ih (n + 1) (by omega))
  exact all 48 0 rfl
/-- from the entry, for every script of at most 260 ints, the law comes to its end with true -/
theorem whole_start {p : Program} {e : Env} {s : State} {m : MethodId} {below : List Frame} {meth : Method} {c : Code} (l : Launch) (hflags : l.flags = flags0) {b L : Nat} {xs : Nat → Int32} (hL : L ≤ 260) (C0 : lw_At p s m meth c b L xs) : W p l e room_1 s m #[Value.ref b] below meth c s.heap [] 0 0 (lw_Z below #[Value.ref b] s) (entryFrame m ([Value.ref b] : List Value).toArray 16) := by
  obtain ⟨G, hG, hK, hE⟩ := law_env C0 (by omega)
  obtain ⟨hx, hb, hr, hml, hown, hts, hXs, hbl, hlocks, hgv⟩ := C0
  have hl := lv_entry [Value.ref b] (n := 16) (show 1 ≤ 16 by decide)
  rw [lg_entry_eq]
  have hX : lX p s m c #[Value.ref b] G (fun q => s.heap.size ≤ q) := ⟨hx, hb, hml, hown, fun w hw => hts w (wsL_law_in w hw), hK, fun q h => h, hE, Nat.le_of_ble_eq_true rfl, Nat.le_of_ble_eq_true rfl⟩
  generalize (lg_sl [Value.ref b] ++ List.replicate (16 - (lg_sl [Value.ref b]).length) Slot.unset).toArray = ls0 at hl ⊢
  have hl2 : lv_has ls0 16 [(0, .ref (G.2.2.2 259))] := by
    rw [hG]
    exact hl
  refine lw_start hX 100 2000 rfl rfl (fun am ab ci pe to => lw_all hX (fun H locs ls hS => ?_)) (fun k q h => (by cases h)) ⟨fun i j p q h => (by cases h), fun k q h => (by cases h)⟩ va_S.rf _ hl2
  refine va_forget hS.2.2 ?_
  refine W.widen (k := room_1.cells) (n := room_1.slots) (Nat.le_of_ble_eq_true rfl) (Nat.le_of_ble_eq_true rfl) ?_
  exact lw_ret hx hb hr hlocks dL_law_955
