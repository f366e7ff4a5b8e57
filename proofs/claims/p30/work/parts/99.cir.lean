/-! who talks: four askers, their circles; who is told, and that nobody is given away -/
def eb (a b : Nat) : Nat := if min a b = 0 then max a b - 1 else if min a b = 1 then max a b + 1 else 5
def tg1 (n i j : Nat) : Nat := if j ≠ i ∧ n.testBit (eb i j) = true then 2 ^ j else 0
def tg (n i : Nat) : Nat := if i < 4 then tg1 n i 0 ||| tg1 n i 1 ||| tg1 n i 2 ||| tg1 n i 3 else 0
set_option maxRecDepth 100000 in
set_option maxHeartbeats 4000000 in
theorem tg_lnk : ∀ n, n < 64 → ∀ a, a < 4 → ∀ b, b < 4 → a ≠ b → n ||| 2 ^ eb a b < 64 ∧ ∀ i, i < 7 → lnk (tg n) a b i = tg (n ||| 2 ^ eb a b) i := by decide +kernel
set_option maxRecDepth 100000 in
set_option maxHeartbeats 4000000 in
theorem tg_cir : ∀ n, n < 64 → ∀ a, a < 4 → ∀ b, b < 4 → a ≠ b → ∀ k, k < 4 → cir (tg (n ||| 2 ^ eb a b)) k = if (cir (tg n) a ||| cir (tg n) b).testBit k = true then cir (tg n) a ||| cir (tg n) b else cir (tg n) k := by decide +kernel
set_option maxRecDepth 100000 in
set_option maxHeartbeats 4000000 in
theorem tg_own : ∀ n, n < 64 → ∀ k, k < 4 → (cir (tg n) k).testBit k = true ∧ cir (tg n) k < 16 ∧ ∀ j, j < 4 → (cir (tg n) k).testBit j = true → cir (tg n) k = cir (tg n) j := by decide +kernel
theorem tg_0 : ∀ i, i < 7 → tg 0 i = 0 := by decide +kernel
theorem cir_0 : ∀ k, k < 4 → cir (fun _ => 0) k = 2 ^ k := by decide +kernel
def isT (t : Nat → Nat) : Prop := ∃ n, n < 64 ∧ eq7 t (tg n)
theorem cir_eq {t t' : Nat → Nat} (h : eq7 t t') (k : Nat) : cir t k = cir t' k := rchN_eq7 h _ 4
theorem isT_own {t : Nat → Nat} (h : isT t) {k : Nat} (hk : k < 4) : (cir t k).testBit k = true ∧ cir t k < 16 ∧ ∀ j, j < 4 → (cir t k).testBit j = true → cir t k = cir t j := by
  obtain ⟨n, hn, e⟩ := h
  have h1 := tg_own n hn k hk
  refine ⟨by rw [cir_eq e]; exact h1.1, by rw [cir_eq e]; exact h1.2.1, fun j hj hb => ?_⟩
  rw [cir_eq e] at hb ⊢
  rw [cir_eq e]
  exact h1.2.2 j hj hb
theorem lnk_eq7 {t t' : Nat → Nat} (h : eq7 t t') {a b : Nat} (ha : a < 7) (hb : b < 7) : eq7 (lnk t a b) (lnk t' a b) := fun i hi => by
  unfold lnk
  by_cases e1 : i = b
  · rw [e1, va_up_self, va_up_self]
    by_cases e2 : b = a
    · rw [e2, va_up_self, va_up_self, h a ha]
    · rw [va_up_ne _ _ e2, va_up_ne _ _ e2, h b hb]
  · rw [va_up_ne _ _ e1, va_up_ne _ _ e1]
    by_cases e2 : i = a
    · rw [e2, va_up_self, va_up_self, h a ha]
    · rw [va_up_ne _ _ e2, va_up_ne _ _ e2, h i hi]
theorem isT_lnk {t : Nat → Nat} (h : isT t) {a b : Nat} (ha : a < 4) (hb : b < 4) (hab : a ≠ b) : isT (lnk t a b) ∧ ∀ k, k < 4 → cir (lnk t a b) k = if (cir t a ||| cir t b).testBit k = true then cir t a ||| cir t b else cir t k := by
  obtain ⟨n, hn, e⟩ := h
  obtain ⟨h1, h2⟩ := tg_lnk n hn a ha b hb hab
  have e2 : eq7 (lnk t a b) (tg (n ||| 2 ^ eb a b)) := fun i hi => (lnk_eq7 e (by omega) (by omega) i hi).trans (h2 i hi)
  refine ⟨⟨_, h1, e2⟩, fun k hk => ?_⟩
  rw [cir_eq e2, cir_eq e, cir_eq e, cir_eq e]
  exact tg_cir n hn a ha b hb hab k hk
theorem GA_0 {hr : Nat → Nat} {ci : Nat} (h : ∀ p, p < 8 → ¬ (GA hr ci).testBit p = true) : GA hr ci = 0 := Nat.eq_of_testBit_eq fun p => by
  rw [Nat.zero_testBit]
  by_cases hp : p < 8
  · cases hb : (GA hr ci).testBit p
    · rfl
    · exact absurd hb (h p hp)
  · exact Nat.testBit_lt_two_pow (Nat.lt_of_lt_of_le (show GA hr ci < 2 ^ 8 from GA_lt hr ci) (Nat.pow_le_pow_right (n := 2) (by decide) (by omega)))
/-- all that was told gives nobody away -/
def sumI (hr t : Nat → Nat) : Prop := isT t ∧ ∀ k, k < 4 → GA hr (cir t k) = 0
theorem sumI_talk {hr t : Nat → Nat} (h : sumI hr t) {a b : Nat} (ha : a < 4) (hb : b < 4) (hab : a ≠ b) : sumI hr (talT hr t a b) ∧ ∀ k, k < 4 → cir (talT hr t a b) k = if GA hr (cir t a ||| cir t b) = 0 ∧ (cir t a ||| cir t b).testBit k = true then cir t a ||| cir t b else cir t k := by
  by_cases hg : GA hr (cir t a ||| cir t b) = 0
  · have e : talT hr t a b = lnk t a b := if_pos hg
    obtain ⟨h1, h2⟩ := isT_lnk h.1 ha hb hab
    rw [e]
    refine ⟨⟨h1, fun k hk => ?_⟩, fun k hk => ?_⟩
    · rw [h2 k hk]
      split
      · exact hg
      · exact h.2 k hk
    · rw [h2 k hk]
      by_cases c : (cir t a ||| cir t b).testBit k = true
      · rw [if_pos c, if_pos ⟨hg, c⟩]
      · rw [if_neg c, if_neg (fun z => c z.2)]
  · have e : talT hr t a b = t := if_neg hg
    rw [e]
    exact ⟨h, fun k hk => (if_neg (fun z => hg z.1)).symm⟩
theorem sumI_ask {hr t : Nat → Nat} (h : sumI hr t) {le k x : Nat} (hk : k < 4) : sumI (hrT hr t le k x) t := by
  refine ⟨h.1, fun j hj => ?_⟩
  by_cases ha : acc hr t le k x = true
  · have e : hrT hr t le k x = va_up hr x (hr x ||| 2 ^ k) := if_pos ha
    rw [e]
    have hgw : GW hr (cir t k) x = 0 := by
      unfold acc at ha
      rw [Bool.and_eq_true] at ha
      exact of_decide_eq_true ha.2
    obtain ⟨o1, o2, o3⟩ := isT_own h.1 hj
    refine GA_0 fun p hp hb => ?_
    have hS := (GA_iff _ _ hp).mp hb
    by_cases c : (cir t j).testBit k = true
    · have ec := o3 k hk c
      rw [ec] at hS
      have h2 := (GW_iff hr (cir t k) x hp).mpr (hS.mono (fun v ⟨y, hy, ev⟩ => Sp.of ⟨y, (by
        by_cases exy : y = x
        · exact Or.inr exy
        · left
          have h3 := hy.2
          rw [va_up_ne _ _ exy] at h3
          exact ⟨hy.1, h3⟩), ev⟩))
      rw [hgw, Nat.zero_testBit] at h2
      cases h2
    · have h2 := (GA_iff hr (cir t j) hp).mpr (hS.mono (fun v ⟨y, hy, ev⟩ => Sp.of ⟨y, (by
        refine ⟨hy.1, fun h0 => hy.2 ?_⟩
        by_cases exy : y = x
        · rw [exy, va_up_self]
          rw [exy] at h0
          refine and0.mpr fun i hi hc => ?_
          rcases or_bit.mp hi with z | z
          · exact and0.mp h0 i z hc
          · rw [Nat.testBit_two_pow, decide_eq_true_eq] at z
            rw [← z] at hc
            exact c hc
        · rw [va_up_ne _ _ exy]; exact h0), ev⟩))
      rw [h.2 j hj, Nat.zero_testBit] at h2
      cases h2
  · have e : hrT hr t le k x = hr := if_neg ha
    rw [e]
    exact h.2 j hj
/-- from what a circle was told no person's value comes -/
theorem no_give {hr t : Nat → Nat} (h : sumI hr t) {k : Nat} (hk : k < 4) {n : Nat} {v : Nat → Nat} (hv : ∀ i, i < n → v i < 64 ∧ ∃ a, (cir t k).testBit a = true ∧ (hr (v i)).testBit a = true) {p : Nat} (hp : p < 6) : ¬ Sp 1000003 (fun u => ∃ i, i < n ∧ u = bv (v i)) (bv (2 ^ p)) := by
  intro hS
  have h1 : Sp 1000003 (fun u => ∃ y, (∃ i, i < n ∧ y = v i) ∧ u = bv y) (bv (2 ^ p)) := hS.mono (fun u ⟨i, hi, e⟩ => Sp.of ⟨v i, ⟨i, hi, rfl⟩, e⟩)
  have h2 := cross (F := fun y => ∃ i, i < n ∧ y = v i) (fun y ⟨i, hi, e⟩ => e ▸ (hv i hi).1) (Nat.pow_lt_pow_right (n := 6) (by decide) hp) h1
  have h3 := (GA_iff hr (cir t k) (show p < 8 by omega)).mpr (h2.mono (fun u ⟨y, ⟨i, hi, e⟩, eu⟩ => Sp.of ⟨y, (by
    obtain ⟨hlt, a, ha1, ha2⟩ := hv i hi
    rw [e]
    exact ⟨by omega, fun h0 => and0.mp h0 a ha2 ha1⟩), eu⟩))
  rw [h.2 k hk, Nat.zero_testBit] at h3
  cases h3
