/-! isShut: classes that grow together along the permits -/
abbrev iF (G : gG) (D : Nat → Nat → Nat) : Nat → va_E := fun a => .inl (G.2.2.1 0, 2, .inl (nA (D a)))
def clE (S B : Nat → Nat) (w n : Nat) (X : Nat → Prop) : Prop := ∀ k, k < n → w.testBit k = false → (X (S k) ↔ X (B k))
def PW (S B : Nat → Nat) (w n : Nat) (W : Nat → Nat) : Prop := (∀ i, i < 6 → W i < 64 ∧ (W i).testBit i = true) ∧ (∀ i j, i < 6 → j < 6 → (W i).testBit j = true → W i = W j) ∧ ∀ X, clE S B w n X → ∀ i j, i < 6 → (W i).testBit j = true → X i → X j
def dnE (S B : Nat → Nat) (w : Nat) (W : Nat → Nat) (d : Nat) : Prop := ∀ k, k < d → w.testBit k = false → W (S k) = W (B k)
def mgN (W : Nat → Nat) (x i : Nat) : Nat → Nat := fun n => if n < i ∧ x.testBit n = true then W n ||| x else W n
theorem mgN_0 (W : Nat → Nat) (x : Nat) : mgN W x 0 = W := funext fun n => if_neg (fun h => absurd h.1 (Nat.not_lt_zero n))
theorem mgN_y {W : Nat → Nat} {x i : Nat} (h : x.testBit i = true) : va_up (mgN W x i) i (mgN W x i i ||| x) = mgN W x (i + 1) := funext fun n => by
  by_cases e : n = i
  · rw [e, va_up_self]
    unfold mgN
    rw [if_neg (fun h => absurd h.1 (Nat.lt_irrefl i)), if_pos ⟨by omega, h⟩]
  · rw [va_up_ne _ _ e]
    unfold mgN
    by_cases c : n < i ∧ x.testBit n = true
    · rw [if_pos c, if_pos ⟨by omega, c.2⟩]
    · rw [if_neg c, if_neg (fun z => c ⟨by omega, z.2⟩)]
theorem mgN_n {W : Nat → Nat} {x i : Nat} (h : ¬ x.testBit i = true) : mgN W x i = mgN W x (i + 1) := funext fun n => by
  unfold mgN
  by_cases c : n < i ∧ x.testBit n = true
  · rw [if_pos c, if_pos ⟨by omega, c.2⟩]
  · refine (if_neg c).trans (if_neg (fun z => c ⟨?_, z.2⟩)).symm
    by_cases e : n = i
    · exact absurd (e ▸ z.2) h
    · omega
theorem mgN_lt {W : Nat → Nat} {x i n : Nat} (hW : W n < 64) (hx : x < 64) : mgN W x i n < 64 := by
  unfold mgN
  split
  · exact Nat.or_lt_two_pow (n := 6) hW hx
  · exact hW
theorem or_bit {a b n : Nat} : (a ||| b).testBit n = true ↔ (a.testBit n = true ∨ b.testBit n = true) := by rw [Nat.testBit_or, Bool.or_eq_true]
theorem mg6 {S B : Nat → Nat} {w n : Nat} {W : Nat → Nat} (h : PW S B w n W) {a b : Nat} (ha : a < 6) (hb : b < 6) {i : Nat} (hi : i < 6) : ((W a ||| W b).testBit i = true → mgN W (W a ||| W b) 6 i = W a ||| W b) ∧ (¬ (W a ||| W b).testBit i = true → mgN W (W a ||| W b) 6 i = W i) := by
  refine ⟨fun hx => ?_, fun hx => if_neg (fun z => hx z.2)⟩
  refine (if_pos ⟨hi, hx⟩).trans ?_
  rcases or_bit.mp hx with e | e
  · rw [← h.2.1 a i ha hi e, ← Nat.or_assoc, Nat.or_self]
  · rw [← h.2.1 b i hb hi e, Nat.or_comm (W a), ← Nat.or_assoc, Nat.or_self]
theorem PW_0 (S B : Nat → Nat) (w n : Nat) {W : Nat → Nat} (h : ∀ i, i < 6 → W i = 2 ^ i) : PW S B w n W := by
  refine ⟨fun i hi => ?_, fun i j hi hj hb => ?_, fun X _ i j hi hb hX => ?_⟩
  · rw [h i hi]
    exact ⟨Nat.pow_lt_pow_right (n := 6) (by decide) hi, by rw [Nat.testBit_two_pow, decide_eq_true rfl]⟩
  · rw [h i hi, Nat.testBit_two_pow, decide_eq_true_eq] at hb
    rw [hb]
  · rw [h i hi, Nat.testBit_two_pow, decide_eq_true_eq] at hb
    rw [← hb]; exact hX
theorem PW_mg {S B : Nat → Nat} {w n k : Nat} {W : Nat → Nat} (h : PW S B w n W) (hk : k < n) (hw : w.testBit k = false) (ha : S k < 6) (hb : B k < 6) : PW S B w n (mgN W (W (S k) ||| W (B k)) 6) := by
  have m6 := fun i hi => mg6 h ha hb (i := i) hi
  generalize hx : W (S k) ||| W (B k) = x at m6 ⊢
  have xlt : x < 64 := by rw [← hx]; exact Nat.or_lt_two_pow (n := 6) (h.1 _ ha).1 (h.1 _ hb).1
  have xin : ∀ i, i < 6 → x.testBit i = true → (W i = W (S k) ∨ W i = W (B k)) := fun i hi hxi => by
    rw [← hx] at hxi
    rcases or_bit.mp hxi with e | e
    · exact Or.inl (h.2.1 _ _ ha hi e).symm
    · exact Or.inr (h.2.1 _ _ hb hi e).symm
  have xof : ∀ i, i < 6 → (W i = W (S k) ∨ W i = W (B k)) → x.testBit i = true := fun i hi e => by
    rw [← hx]
    rcases e with e | e
    · exact or_bit.mpr (Or.inl (by rw [← e]; exact (h.1 i hi).2))
    · exact or_bit.mpr (Or.inr (by rw [← e]; exact (h.1 i hi).2))
  refine ⟨fun i hi => ?_, fun i j hi hj hbit => ?_, fun X hX i j hi hbit hXi => ?_⟩
  · refine ⟨mgN_lt (h.1 i hi).1 xlt, ?_⟩
    by_cases c : x.testBit i = true
    · rw [(m6 i hi).1 c]; exact c
    · rw [(m6 i hi).2 c]; exact (h.1 i hi).2
  · by_cases c : x.testBit i = true
    · rw [(m6 i hi).1 c] at hbit ⊢
      rw [(m6 j hj).1 hbit]
    · rw [(m6 i hi).2 c] at hbit ⊢
      have e := h.2.1 i j hi hj hbit
      have c2 : ¬ x.testBit j = true := fun z => c (xof i hi (by rw [e]; exact xin j hj z))
      rw [(m6 j hj).2 c2]
      exact e
  · have h3 := h.2.2 X hX
    by_cases c : x.testBit i = true
    · rw [(m6 i hi).1 c, ← hx] at hbit
      have hSB := hX k hk hw
      have hboth : X (S k) ∧ X (B k) := by
        rcases xin i hi c with e | e
        · have h4 := h3 i (S k) hi (by rw [e]; exact (h.1 _ ha).2) hXi
          exact ⟨h4, hSB.mp h4⟩
        · have h4 := h3 i (B k) hi (by rw [e]; exact (h.1 _ hb).2) hXi
          exact ⟨hSB.mpr h4, h4⟩
      rcases or_bit.mp hbit with e | e
      · exact h3 _ j ha e hboth.1
      · exact h3 _ j hb e hboth.2
    · rw [(m6 i hi).2 c] at hbit
      exact h3 i j hi hbit hXi
theorem dnE_mg {S B : Nat → Nat} {w n k d : Nat} {W : Nat → Nat} (h : PW S B w n W) (ha : S k < 6) (hb : B k < 6) (hSB : ∀ j, j < d → S j < 6 ∧ B j < 6) (hd : dnE S B w W d) : dnE S B w (mgN W (W (S k) ||| W (B k)) 6) d := by
  have m6 := fun i hi => mg6 h ha hb (i := i) hi
  intro j hj hwj
  have e := hd j hj hwj
  obtain ⟨h1, h2⟩ := hSB j hj
  have iff : (W (S k) ||| W (B k)).testBit (S j) = true ↔ (W (S k) ||| W (B k)).testBit (B j) = true := by
    have key : ∀ a i i', a < 6 → i < 6 → i' < 6 → W i = W i' → (W a).testBit i = true → (W a).testBit i' = true := fun a i i' h3 h4 h5 e hbit => by
      rw [h.2.1 a i h3 h4 hbit, e]; exact (h.1 i' h5).2
    rw [or_bit, or_bit]
    exact ⟨fun z => z.imp (key _ _ _ ha h1 h2 e) (key _ _ _ hb h1 h2 e), fun z => z.imp (key _ _ _ ha h2 h1 e.symm) (key _ _ _ hb h2 h1 e.symm)⟩
  by_cases c : (W (S k) ||| W (B k)).testBit (S j) = true
  · rw [(m6 _ h1).1 c, (m6 _ h2).1 (iff.mp c)]
  · rw [(m6 _ h1).2 c, (m6 _ h2).2 (fun z => c (iff.mpr z))]
    exact e
theorem dnE_new {S B : Nat → Nat} {w n k : Nat} {W : Nat → Nat} (h : PW S B w n W) (ha : S k < 6) (hb : B k < 6) : mgN W (W (S k) ||| W (B k)) 6 (S k) = mgN W (W (S k) ||| W (B k)) 6 (B k) := by
  rw [(mg6 h ha hb ha).1 (or_bit.mpr (Or.inl (h.1 _ ha).2)), (mg6 h ha hb hb).1 (or_bit.mpr (Or.inr (h.1 _ hb).2))]
