/-! a list as a whole: empty or not; and who goes through it -/
def tlW (G : gG) (h mo n q N : Nat) (f : Nat → Option Nat) : va_W := (h, .inr (2, [.int (nI mo), .ref (if n = 0 then G.2.2.2 0 else q), .int (nI n)])) :: (if n = 0 then [] else [(q, .inl (G.2.2.1 4, N, .inr (.inr (.inr (.inr f)))))])
def itW (it cu : Nat) (la : Int32) (mo h : Nat) : va_W := [(it, .inr (1, [.int (nI cu), .int la, .int (nI mo), .ref h]))]
theorem tlW_z {G : gG} {h mo q N : Nat} {f : Nat → Option Nat} : tlW G h mo 0 q N f = [(h, .inr (2, [.int (nI mo), .ref (G.2.2.2 0), .int (nI 0)]))] := rfl
theorem tlW_s {G : gG} {h mo n q N : Nat} {f : Nat → Option Nat} (hn : n ≠ 0) : tlW G h mo n q N f = [(h, .inr (2, [.int (nI mo), .ref q, .int (nI n)])), (q, .inl (G.2.2.1 4, N, .inr (.inr (.inr (.inr f)))))] := by
  unfold tlW
  rw [if_neg hn, if_neg hn]
theorem gR_mono {s : State} {pl : Platform} {r r' : Room} (hf : r.frames ≤ r'.frames) (hl : r.locals ≤ r'.locals) (hc : r.cells ≤ r'.cells) (hs : r.slots ≤ r'.slots) (h : s.hasRoom pl r' = true) : s.hasRoom pl r = true := by
  simp only [State.hasRoom, Bool.and_eq_true, decide_eq_true_eq] at h ⊢
  obtain ⟨⟨⟨⟨h1, h2, h3, h4, h5, h6⟩, h7⟩, h8⟩, h9⟩ := h
  exact ⟨⟨⟨⟨by omega, by omega, by omega, by omega, by omega, h6⟩, by omega⟩, by omega⟩, h9⟩
/-- more room does no harm -/
theorem gMet_room {S : Type} {l : Launch} {G : gG} {y : MethodName} {wds : List Cond} {rm rm2 : Room} {av : List Value} {ws : va_W} {post : S → Prop} {rv : S → Option Value} {w1 : S → va_W} (hM : gMet l G y wds rm av ws post rv w1) (hf : rm.frames ≤ rm2.frames) (hl : rm.locals ≤ rm2.locals) (hc : rm.cells ≤ rm2.cells) (hs : rm.slots ≤ rm2.slots) : gMet l G y wds rm2 av ws post rv w1 := by
  intro sz p e ha hcs hk s m args below hfr happ hP hK
  obtain ⟨a1, a2, a3, a4, a5, a6, a7, a8⟩ := (Spec.appliesLoose_iff hfr).mp happ
  obtain ⟨n, o, h1, h2, h3, h4, L, h5, h6⟩ := hM sz p e ha hcs hk s m args below hfr ((Spec.appliesLoose_iff hfr).mpr ⟨a1, a2, a3, a4, a5, a6, gR_mono hf hl hc hs a7, a8⟩) hP hK
  exact ⟨n, o, h1, h2, h3, h4, L, ⟨h5.1, h5.2.1, h5.2.2.mono hc hs⟩, h6⟩
theorem k_L_init (l : Launch) (G : gG) (h : Nat) : gMet (S := Unit) l G yJx4a65c_init_da8c8 wsJx4a65c_init_da8c8 rm_c_L_init [.ref h] [(h, .inr (2, [.int (nI 0), .null, .int (nI 0)]))] (fun _ => True) (fun _ => none) (fun _ => tlW G h 0 0 0 10 (fun _ => none)) := gMet_eq (c_L_init l G h) rfl (fun _ => rfl)
/-- what a list's array is to be -/
abbrev tlN (n N : Nat) : Prop := n ≠ 0 → n ≤ N ∧ 10 ≤ N ∧ N ≤ 300
theorem k_L_add (l : Launch) (G : gG) (h mo n q N : Nat) (f : Nat → Option Nat) (v : Nat) (Z : va_W) (El : Nat → Prop) (hZ : gEl G Z El) (hv : El v) (hmo : mo < 900) (hn : n ≤ 100) (hN : tlN n N) (hf : ∀ i, i < n → ∀ y, f i = some y → El y) : gMet (S := Nat × Nat × (Nat → Option Nat)) l G yJx4a65c_add_9ea2d wsJx4a65c_add_9ea2d rm_c_L_add [.ref h, .ref v] (tlW G h mo n q N f ++ Z) (fun w => tlN (n + 1) w.2.1 ∧ (∀ j, j < n → w.2.2 j = f j) ∧ w.2.2 n = some v) (fun _ => some (.int (nI 1))) (fun w => tlW G h (mo + 1) (n + 1) w.1 w.2.1 w.2.2 ++ Z) := by
  by_cases e : n = 0
  · subst e
    refine gMet_im (gMet_eq (gMet_room (c_L_add0 l G h mo v Z El hZ hv hmo) (rm2 := rm_c_L_add) (by decide) (by decide) (by decide) (by decide)) (by rw [tlW_z]) (fun _ => rfl)) (fun u => u) (fun u hu => ⟨⟨fun _ => hu.1, fun j hj => absurd hj (Nat.not_lt_zero j), hu.2.2⟩, rfl, ?_⟩)
    rw [tlW_s (by decide)]
  · obtain ⟨n1, n2, n3⟩ := hN e
    refine gMet_im (gMet_eq (c_L_add l G h mo q n N f v Z El hZ hv hmo hn n3 n2 n1 hf) (by rw [tlW_s e]) (fun _ => rfl)) (fun u => u) (fun u hu => ⟨⟨fun _ => hu.1, hu.2.1, hu.2.2⟩, rfl, ?_⟩)
    rw [tlW_s (by omega)]
theorem k_L_addI (l : Launch) (G : gG) (h mo n q N : Nat) (f : Nat → Option Nat) (v : Nat) (hv : v < 256) (hmo : mo < 900) (hn : n ≤ 100) (hN : tlN n N) (hf : ∀ i, i < n → ∃ k, k < 256 ∧ f i = some (gI G k)) : gMet (S := Nat × Nat × (Nat → Option Nat)) l G yJx4a65c_add_9ea2d wsJx4a65c_add_9ea2d rm_c_L_add [.ref h, .ref (gI G v)] (tlW G h mo n q N f) (fun w => tlN (n + 1) w.2.1 ∧ (∀ j, j < n → w.2.2 j = f j) ∧ w.2.2 n = some (gI G v)) (fun _ => some (.int (nI 1))) (fun w => tlW G h (mo + 1) (n + 1) w.1 w.2.1 w.2.2) := gMet_eq (k_L_add l G h mo n q N f (gI G v) [] _ (gEl_I G) ⟨v, hv, rfl⟩ hmo hn hN (fun i hi y hy => by
    obtain ⟨k, hk, e⟩ := hf i hi
    rw [e] at hy
    exact ⟨k, hk, (Option.some.inj hy).symm⟩)) (List.append_nil _) (fun _ => List.append_nil _)
theorem k_L_addA (l : Launch) (G : gG) (h mo n q N : Nat) (f : Nat → Option Nat) (v : Nat) (LP : List Nat) (D : Nat → Nat → Nat) (hv : v ∈ LP) (hmo : mo < 900) (hn : n ≤ 100) (hN : tlN n N) (hf : ∀ i, i < n → ∃ y, f i = some y ∧ y ∈ LP) : gMet (S := Nat × Nat × (Nat → Option Nat)) l G yJx4a65c_add_9ea2d wsJx4a65c_add_9ea2d rm_c_L_add [.ref h, .ref v] (tlW G h mo n q N f ++ va_pl LP (iF G D)) (fun w => tlN (n + 1) w.2.1 ∧ (∀ j, j < n → w.2.2 j = f j) ∧ w.2.2 n = some v) (fun _ => some (.int (nI 1))) (fun w => tlW G h (mo + 1) (n + 1) w.1 w.2.1 w.2.2 ++ va_pl LP (iF G D)) := k_L_add l G h mo n q N f v (va_pl LP (iF G D)) (fun y => y ∈ LP) (gEl_A G LP (fun a => (2, .inl (nA (D a))))) hv hmo hn hN (fun i hi y hy => by
    obtain ⟨z, e, hz⟩ := hf i hi
    rw [e] at hy
    exact Option.some.inj hy ▸ hz)
theorem k_iter (l : Launch) (G : gG) (h mo n q N : Nat) (f : Nat → Option Nat) : gMet (S := Nat) l G yJx4a65c_iterator_32c93 wsJx4a65c_iterator_32c93 rm_c_L_iterator [.ref h] (tlW G h mo n q N f) (fun _ => True) (fun it => some (.ref it)) (fun it => itW it 0 (-1) mo h ++ tlW G h mo n q N f) := by
  by_cases e : n = 0
  · subst e
    exact gMet_eq (c_L_iterator l G h mo (.ref (G.2.2.2 0)) 0) rfl (fun _ => rfl)
  · refine gMet_eq (ws := [(h, .inr (2, [.int (nI mo), .ref q, .int (nI n)])), (q, .inl (G.2.2.1 4, N, .inr (.inr (.inr (.inr f)))))]) (w1 := fun it => [(it, .inr (1, [.int (nI 0), .int (-1), .int (nI mo), .ref h])), (h, .inr (2, [.int (nI mo), .ref q, .int (nI n)])), (q, .inl (G.2.2.1 4, N, .inr (.inr (.inr (.inr f)))))]) ?_ (tlW_s e).symm (fun it => by rw [tlW_s e]; rfl)
    exact gLift (wr := [(q, .inl (G.2.2.1 4, N, .inr (.inr (.inr (.inr f)))))]) (c_L_iterator l G h mo (.ref q) n) (fun u => u) [0] [1] [1, 2, 0] rfl rfl (by decide) (by decide) (by decide) (by decide) (fun _ => rfl) (fun _ _ => ⟨trivial, rfl⟩)
theorem k_hasNext (l : Launch) (G : gG) (it cu : Nat) (la : Int32) (h mo n q N : Nat) (f : Nat → Option Nat) (hc : cu ≤ n) (hn : n < 2 ^ 31) : gMet (S := Unit) l G yJx35411_hasNext_aae02 wsJx35411_hasNext_aae02 rm_c_Itr_hasNext [.ref it] (itW it cu la mo h ++ tlW G h mo n q N f) (fun _ => True) (fun _ => some (.int (nI (if cu = n then 0 else 1)))) (fun _ => itW it cu la mo h ++ tlW G h mo n q N f) := by
  by_cases e : n = 0
  · subst e
    exact gMet_eq (c_Itr_hasNext l G it cu la h mo (.ref (G.2.2.2 0)) 0 hc hn) rfl (fun _ => rfl)
  · refine gMet_eq (ws := [(it, .inr (1, [.int (nI cu), .int la, .int (nI mo), .ref h])), (h, .inr (2, [.int (nI mo), .ref q, .int (nI n)])), (q, .inl (G.2.2.1 4, N, .inr (.inr (.inr (.inr f)))))]) (w1 := fun _ => [(it, .inr (1, [.int (nI cu), .int la, .int (nI mo), .ref h])), (h, .inr (2, [.int (nI mo), .ref q, .int (nI n)])), (q, .inl (G.2.2.1 4, N, .inr (.inr (.inr (.inr f)))))]) ?_ (by rw [tlW_s e]; rfl) (fun _ => by rw [tlW_s e]; rfl)
    exact gLift (wr := [(q, .inl (G.2.2.1 4, N, .inr (.inr (.inr (.inr f)))))]) (c_Itr_hasNext l G it cu la h mo (.ref q) n hc hn) (fun u => u) [0, 1] [2] [1, 2, 0] rfl rfl (by decide) (by decide) (by decide) (by decide) (fun _ => rfl) (fun _ _ => ⟨trivial, rfl⟩)
theorem k_next (l : Launch) (G : gG) (it cu : Nat) (la : Int32) (h mo n q N : Nat) (f : Nat → Option Nat) (y : Nat) (hc : cu < n) (hN : tlN n N) (hmo : mo < 1000) (hy : f cu = some y) : gMet (S := Unit) l G yJx35411_next_0502b wsJx35411_next_0502b rm_c_Itr_next [.ref it] (itW it cu la mo h ++ tlW G h mo n q N f) (fun _ => True) (fun _ => some (.ref y)) (fun _ => itW it (cu + 1) (nI cu) mo h ++ tlW G h mo n q N f) := by
  obtain ⟨n1, n2, n3⟩ := hN (by omega)
  exact gMet_eq (c_Itr_next l G it cu la h mo q n N f y hc n1 n3 hmo hy) (by rw [tlW_s (by omega)]; rfl) (fun _ => by rw [tlW_s (by omega)]; rfl)
theorem k_isIn (l : Launch) (G : gG) (h mo n q N : Nat) (f : Nat → Option Nat) (v : Nat → Nat) (x : Nat) (hn : n ≤ 48) (hN : tlN n N) (hfl : ∀ i, i < n → f i = some (gI G (v i + 128))) (hv : ∀ i, i < n → v i < 64) (hm : x < 64) : gMet (S := Nat) l G yL_isIn wsL_isIn rm_c_isIn [.ref h, .int (nI x)] (tlW G h mo n q N f) (fun z => z ≤ 1 ∧ (z = 1 → Sp 1000003 (fun u => ∃ i, i < n ∧ u = bv (v i)) (bv x))) (fun z => some (.int (nI z))) (fun _ => tlW G h mo n q N f) := by
  by_cases e : n = 0
  · subst e
    exact gMet_im (gMet_room (c_isIn0 l G h mo x hm) (rm2 := rm_c_isIn) (by decide) (by decide) (by decide) (by decide)) (fun u => u) (fun u hu => ⟨⟨hu.1, fun h1 => (hu.2 h1).mono (fun u ⟨i, hi, _⟩ => absurd hi (Nat.not_lt_zero i))⟩, rfl, rfl⟩)
  · obtain ⟨n1, n2, n3⟩ := hN e
    exact gMet_eq (c_isIn l G h mo q n N f v x hn n1 n3 hfl hv hm) (tlW_s e).symm (fun _ => (tlW_s e).symm)
