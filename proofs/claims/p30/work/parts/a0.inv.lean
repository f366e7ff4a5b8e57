/-! what stays so from round to round -/
def tabI (L : Nat → Nat) (tc sk : Nat) (g : Nat → Nat) : Prop := (tc ≤ 10 ∧ sk < 1024) ∧ (∀ p, p < tc → L p < 128) ∧ ∀ p, p < tc → sk.testBit p = false → ¬ anyP g (L p) 6
theorem tabI_sk {L g g2 : Nat → Nat} {tc sk sk2 : Nat} (h : tabI L tc sk g) (hs : isSk L tc sk g2 6 sk2) : tabI L tc sk2 g2 := ⟨⟨h.1.1, hs.1⟩, h.2.1, fun p hp hb ha => by
  have := (hs.2 p).mpr (Or.inr ⟨hp, ha⟩)
  rw [hb] at this
  cases this⟩
theorem tabI_join {L g : Nat → Nat} {tc sk a b : Nat} (h : tabI L tc sk g) (htc : tc < 10) (ha : a < 6) (hb : b < 6) (hno : ¬ anyP g (2 ^ a ||| 2 ^ b) 6) : tabI (va_up L tc (2 ^ a ||| 2 ^ b)) (tc + 1) sk g := by
  refine ⟨⟨by omega, h.1.2⟩, fun p hp => ?_, fun p hp hs => ?_⟩
  · by_cases e : p = tc
    · rw [e, va_up_self]; exact two_lines (by omega) (by omega)
    · rw [va_up_ne _ _ e]; exact h.2.1 p (by omega)
  · by_cases e : p = tc
    · rw [e, va_up_self]; exact hno
    · rw [va_up_ne _ _ e]; exact h.2.2 p (by omega) hs
/-- no table that is there has two that are too near -/
theorem tabI_no {L g : Nat → Nat} {tc sk p i j : Nat} (h : tabI L tc sk g) (hp : p < tc) (hs : sk.testBit p = false) (hij : i < j) (hj : j < 6) (h1 : (L p).testBit i = true) (h2 : (L p).testBit j = true) : ¬ (g i).testBit j = true := fun h3 => h.2.2 p hp hs ⟨i, j, hij, hj, by unfold pw; rw [h1, h2, h3]; rfl⟩
theorem unl_bit {f : Nat → Nat} {a b i j : Nat} (hab : a ≠ b) : (unl f a b i).testBit j = true ↔ ((f i).testBit j = true ∧ ¬ (i = a ∧ j = b) ∧ ¬ (i = b ∧ j = a)) := by
  unfold unl
  by_cases e1 : i = b
  · rw [e1, va_up_self, va_up_ne _ _ (fun z => hab z.symm), clr_bitP, Nat.testBit_two_pow, decide_eq_true_eq]
    exact ⟨fun ⟨h, h2⟩ => ⟨h, fun z => hab z.1.symm, fun z => h2 z.2.symm⟩, fun ⟨h, _, h2⟩ => ⟨h, fun z => h2 ⟨rfl, z.symm⟩⟩⟩
  · rw [va_up_ne _ _ e1]
    by_cases e2 : i = a
    · rw [e2, va_up_self, clr_bitP, Nat.testBit_two_pow, decide_eq_true_eq]
      exact ⟨fun ⟨h, h2⟩ => ⟨h, fun z => h2 z.2.symm, fun z => hab z.1⟩, fun ⟨h, h2, _⟩ => ⟨h, fun z => h2 ⟨rfl, z.symm⟩⟩⟩
    · rw [va_up_ne _ _ e2]
      exact ⟨fun h => ⟨h, fun z => e2 z.1, fun z => e1 z.1⟩, fun h => h.1⟩
theorem sym_kinF {f : Nat → Nat} (h : sym7 f) {z a b : Nat} (hab : a ≠ b) : sym7 (kinF z f a b) := by
  intro i j hi hj hb
  unfold kinF at hb ⊢
  split at hb
  · rw [if_pos (by assumption), unl_bit hab]
    rw [unl_bit hab] at hb
    exact ⟨h i j hi hj hb.1, fun q => hb.2.2 ⟨q.2, q.1⟩, fun q => hb.2.1 ⟨q.2, q.1⟩⟩
  · rw [if_neg (by assumption), lnk_bit hab]
    rw [lnk_bit hab] at hb
    rcases hb with hb | hb | hb
    · exact Or.inl (h i j hi hj hb)
    · exact Or.inr (Or.inr ⟨hb.2, hb.1⟩)
    · exact Or.inr (Or.inl ⟨hb.2, hb.1⟩)
def kinI (f : Nat → Nat) (br : Nat) (g : Nat → Nat) : Prop := (m7 f ∧ sym7 f ∧ br ≤ 5) ∧ isB f br g
theorem kinI_own {f g : Nat → Nat} {br : Nat} (h : kinI f br g) : ∀ i, i < 6 → ¬ (g i).testBit i = true := fun i hi hb => by
  rw [h.2 i (by omega), brd_bit] at hb
  exact hb.2 rfl
theorem kinI_sym {f g : Nat → Nat} {br : Nat} (h : kinI f br g) : ∀ i j, i < 6 → j < 6 → (g i).testBit j = true → (g j).testBit i = true := fun i j hi hj hb => by
  rw [h.2 i (by omega)] at hb
  rw [h.2 j (by omega)]
  exact brd_sym h.1.1 h.1.2.1 (by omega) (by omega) hb
theorem kinI_m7 {f g : Nat → Nat} {br : Nat} (h : kinI f br g) : m7 g := m7_isB h.1.1 h.2
theorem kinI_any {f g g2 : Nat → Nat} {br : Nat} (h : kinI f br g) (h2 : kinI f br g2) {line : Nat} (ha : anyP g2 line 6) : anyP g line 6 := by
  obtain ⟨i, j, hij, hj, hp⟩ := ha
  refine ⟨i, j, hij, hj, ?_⟩
  unfold pw at hp ⊢
  rw [h.2 i (by omega), ← h2.2 i (by omega)]
  exact hp
/-- a place becomes one of the pooled -/
theorem gpoolN {A : Nat → Prop} {X : va_W} {L : List Nat} {F : Nat → va_E} {q : Nat} {e : va_E} (hD : va_D A ((X ++ [(q, e)]) ++ va_pl L F)) : q ∉ L := by
  intro h
  obtain ⟨k, hk⟩ := va_pl_get (X := X ++ [(q, e)]) (f := F) h
  have h1 : ((X ++ [(q, e)]) ++ va_pl L F)[X.length]? = some (q, e) := by
    rw [List.getElem?_append_left (by rw [List.length_append]; exact Nat.lt_succ_self _), List.getElem?_append_right (Nat.le_refl _), Nat.sub_self]
    rfl
  have e1 := hD.1 _ _ _ _ h1 hk rfl
  obtain ⟨i, hi⟩ := List.getElem?_of_mem (show (q, F q) ∈ va_pl L F from List.mem_map.mpr ⟨q, h, rfl⟩)
  have h3 : ((X ++ [(q, e)]) ++ va_pl L F)[X.length + 1 + i]? = some (q, F q) := by
    rw [List.getElem?_append_right (by rw [List.length_append]; show X.length + 1 ≤ _; omega), List.length_append]
    show (va_pl L F)[X.length + 1 + i - (X.length + 1)]? = _
    rw [Nat.add_sub_cancel_left]
    exact hi
  have e2 := hD.1 _ _ _ _ h1 h3 rfl
  omega
theorem gpoolE {X : va_W} {L : List Nat} {F : Nat → va_E} {q : Nat} {e : va_E} (h : q ∉ L) : (X ++ va_pl L F) ++ [(q, e)] = X ++ va_pl (L ++ [q]) (va_up F q e) := by rw [List.append_assoc, va_pl_push h]
theorem gpool {D : va_G} {cl : List vw_C} {A : Nat → Prop} {X : va_W} {L : List Nat} {F : Nat → va_E} {q : Nat} {e : va_E} {H : Heap} (hP : va_P D cl ((X ++ [(q, e)]) ++ va_pl L F) H) (hD : va_D A ((X ++ [(q, e)]) ++ va_pl L F)) : va_P D cl (X ++ va_pl (L ++ [q]) (va_up F q e)) H ∧ va_D A (X ++ va_pl (L ++ [q]) (va_up F q e)) ∧ q ∉ L := by
  have hn := gpoolN hD
  rw [← gpoolE hn]
  exact ⟨hP.swap, hD.swap, hn⟩
theorem iF_up {G : gG} {D : Nat → Nat → Nat} {q : Nat} {f : Nat → Nat} : va_up (iF G D) q (.inl (G.2.2.1 0, 2, .inl (nA f))) = iF G (va_up D q f) := funext fun b => by
  by_cases e : b = q
  · rw [e, va_up_self]
    show _ = (.inl (G.2.2.1 0, 2, .inl (nA (va_up D q f q))) : va_E)
    rw [va_up_self]
  · rw [va_up_ne _ _ e]
    show _ = (.inl (G.2.2.1 0, 2, .inl (nA (va_up D q f b))) : va_E)
    rw [va_up_ne _ _ e]
