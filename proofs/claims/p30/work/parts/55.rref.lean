/-! the rows in use: each is 0 at the other places in use -/
def RR (u : Nat) (M : Nat → Nat → Int) : Prop := ∀ n q, n < 8 → q < 8 → u.testBit n = true → u.testBit q = true → n ≠ q → M n q = 0
/-- the same rows in use -/
def agr (u : Nat) (M M' : Nat → Nat → Int) : Prop := ∀ n, u.testBit n = true → M n = M' n
theorem rstN_agr {u : Nat} {M M' : Nat → Nat → Int} (h : agr u M M') (s : Nat) : ∀ n, rstN u M s n = rstN u M' s n
  | 0 => rfl
  | n + 1 => by
    cases hb : u.testBit n
    · rw [rstN_f hb, rstN_f hb, rstN_agr h s n]
    · rw [rstN_t hb, rstN_t hb, rstN_agr h s n, h n hb]
theorem rst_agr {u : Nat} {M M' : Nat → Nat → Int} (h : agr u M M') (s : Nat) : rst u M s = rst u M' s := rstN_agr h s 8
theorem spU_agr {u : Nat} {M M' : Nat → Nat → Int} (h : agr u M M') (s : Nat) : spU u M s = spU u M' s := by
  unfold spU
  rw [rst_agr h s]
theorem spM_agr {u : Nat} {M M' : Nat → Nat → Int} (h : agr u M M') (s : Nat) : agr (spU u M s) (spM u M s) (spM u M' s) := by
  intro n hn
  unfold spU at hn
  unfold spM
  rw [← rst_agr h s]
  by_cases h8 : fnz (rst u M s) = 8
  · rw [if_pos h8] at hn
    rw [if_pos h8, if_pos h8]
    exact h n hn
  · rw [if_neg h8] at hn
    rw [if_neg h8, if_neg h8]
    show (if n = _ then _ else if u.testBit n = true then cAt _ (M n) _ else M n) = (if n = _ then _ else if u.testBit n = true then cAt _ (M' n) _ else M' n)
    by_cases e : n = fnz (rst u M s)
    · rw [if_pos e, if_pos e]
    · rw [Nat.testBit_or, Nat.testBit_two_pow, decide_eq_false (fun z => e z.symm), Bool.or_false] at hn
      rw [if_neg e, if_neg e, if_pos hn, if_pos hn, h n hn]
theorem aloN_agr {u : Nat} {M M' : Nat → Nat → Int} (h : agr u M M') : ∀ n, aloN u M n = aloN u M' n
  | 0 => rfl
  | n + 1 => by
    have h1 := aloN_agr h n
    by_cases hb : u.testBit n = true
    · unfold aloN
      rw [h n hb, h1]
    · unfold aloN
      rw [if_neg (fun z => hb z.1), if_neg (fun z => hb z.1), h1]
theorem alo_agr {u : Nat} {M M' : Nat → Nat → Int} (h : agr u M M') : alo u M = alo u M' := aloN_agr h 8
theorem cAt_0 {row other : Nat → Int} {p c : Nat} (ho : other c = 0) (hr : row c = 0 ∨ c = p) : cAt row other p c = 0 := by
  unfold cAt
  split
  · exact ho
  · rcases hr with hr | rfl
    · rw [ho, hr, Int.zero_mul, Int.zero_mul, Int.sub_zero, Int.zero_tmod]
    · rw [ho, Int.zero_mul, Int.mul_zero, Int.sub_zero, Int.zero_tmod]
theorem cAt_p (row other : Nat → Int) (p : Nat) : cAt row other p p = 0 := by
  unfold cAt
  split
  · assumption
  · rw [Int.mul_comm (other p), Int.sub_self, Int.zero_tmod]
theorem rstN_used {u : Nat} {M : Nat → Nat → Int} (h : RR u M) (s : Nat) : ∀ n, n ≤ 8 → ∀ q, q < n → u.testBit q = true → rstN u M s n q = 0
  | 0, _, q, hq, _ => absurd hq (Nat.not_lt_zero q)
  | n + 1, hn, q, hq, hb => by
    cases hc : u.testBit n
    · rw [rstN_f hc]
      have hqn : q ≠ n := by rintro rfl; rw [hb] at hc; cases hc
      exact rstN_used h s n (by omega) q (by omega) hb
    · rw [rstN_t hc]
      by_cases e : q = n
      · rw [e]
        exact cAt_p _ _ n
      · exact cAt_0 (rstN_used h s n (by omega) q (by omega) hb) (Or.inl (h n q (by omega) (by omega) hc hb (Ne.symm e)))
theorem rst_used {u : Nat} {M : Nat → Nat → Int} (h : RR u M) (s : Nat) {q : Nat} (hq : q < 8) (hb : u.testBit q = true) : rst u M s q = 0 := rstN_used h s 8 (Nat.le_refl 8) q hq hb
theorem fnz_nz {f : Nat → Int} (h : fnz f < 8) : f (fnz f) ≠ 0 := by
  rcases fnzN_spec f 8 (Nat.le_refl 8) with ⟨h1, _⟩ | ⟨_, h2, _⟩
  · exact absurd h1 (by show fnz f ≠ 8; omega)
  · exact h2
theorem fnz_all {f : Nat → Int} (h : fnz f = 8) {j : Nat} (hj : j < 8) : f j = 0 := by
  rcases fnzN_spec f 8 (Nat.le_refl 8) with ⟨_, h2⟩ | ⟨h1, _⟩
  · exact h2 j hj
  · exact absurd h1 (by show ¬ fnz f < 8; omega)
/-- the new place is not in use yet -/
theorem fnz_free {u : Nat} {M : Nat → Nat → Int} (h : RR u M) (s : Nat) (hl : fnz (rst u M s) < 8) : u.testBit (fnz (rst u M s)) = false := by
  cases hb : u.testBit (fnz (rst u M s))
  · rfl
  · exact absurd (rst_used h s hl hb) (fnz_nz hl)
theorem RR_sp {u : Nat} {M : Nat → Nat → Int} (h : RR u M) (s : Nat) : RR (spU u M s) (spM u M s) := by
  unfold spU spM
  by_cases h8 : fnz (rst u M s) = 8
  · rw [if_pos h8, if_pos h8]; exact h
  · rw [if_neg h8, if_neg h8]
    have hl : fnz (rst u M s) < 8 := by have := fnz_le (rst u M s); omega
    generalize hp : fnz (rst u M s) = p at hl ⊢
    intro n q hn hq bn bq hnq
    have key : ∀ k, (u ||| 2 ^ p).testBit k = true → k ≠ p → u.testBit k = true := fun k hk e => by
      rw [Nat.testBit_or, Nat.testBit_two_pow, decide_eq_false (fun z => e z.symm), Bool.or_false] at hk
      exact hk
    show (if n = p then rst u M s else if u.testBit n = true then cAt (rst u M s) (M n) p else M n) q = 0
    by_cases e : n = p
    · rw [if_pos e]
      exact rst_used h s hq (key q bq (fun z => hnq (by omega)))
    · have hun := key n bn e
      rw [if_neg e, if_pos hun]
      by_cases e2 : q = p
      · rw [e2]; exact cAt_p _ _ p
      · have huq := key q bq e2
        exact cAt_0 (h n q hn hq hun huq hnq) (Or.inl (rst_used h s hq huq))
theorem zb_spM {u : Nat} {M : Nat → Nat → Int} (h : ∀ q, q < 8 → zb (M q)) (s : Nat) : ∀ q, q < 8 → zb (spM u M s q) := by
  intro q hq
  unfold spM
  by_cases h8 : fnz (rst u M s) = 8
  · rw [if_pos h8]; exact h q hq
  · rw [if_neg h8]
    show zb (if q = fnz (rst u M s) then rst u M s else if u.testBit q = true then cAt (rst u M s) (M q) (fnz (rst u M s)) else M q)
    split
    · exact zb_rstN u M s 8
    · split
      · exact zb_cAt (h q hq) _
      · exact h q hq
theorem spU_lt {u : Nat} {M : Nat → Nat → Int} (h : u < 256) (s : Nat) : spU u M s < 256 := by
  unfold spU
  by_cases h8 : fnz (rst u M s) = 8
  · rw [if_pos h8]; exact h
  · rw [if_neg h8]
    have := fnz_le (rst u M s)
    exact Nat.or_lt_two_pow (n := 8) h (Nat.pow_lt_pow_right (by decide) (by omega))
/-- the rows of all sets below n that somebody of the circle heard -/
def fil (hr : Nat → Nat) (ci : Nat) : Nat → (Nat × (Nat → Nat → Int))
  | 0 => (0, fun _ _ => 0)
  | n + 1 => if hr n &&& ci = 0 then fil hr ci n else (spU (fil hr ci n).1 (fil hr ci n).2 n, spM (fil hr ci n).1 (fil hr ci n).2 n)
theorem fil_n {hr : Nat → Nat} {ci n : Nat} (h : hr n &&& ci = 0) : fil hr ci (n + 1) = fil hr ci n := if_pos h
theorem fil_y {hr : Nat → Nat} {ci n : Nat} (h : hr n &&& ci ≠ 0) : fil hr ci (n + 1) = (spU (fil hr ci n).1 (fil hr ci n).2 n, spM (fil hr ci n).1 (fil hr ci n).2 n) := if_neg h
theorem fil_ok0 (hr : Nat → Nat) (ci : Nat) : RR (fil hr ci 0).1 (fil hr ci 0).2 ∧ (fil hr ci 0).1 < 256 := by
  refine ⟨fun n q _ _ h _ _ => ?_, by show (0 : Nat) < 256; decide⟩
  have h2 : Nat.testBit 0 n = true := h
  rw [Nat.zero_testBit] at h2
  cases h2
theorem fil_ok (hr : Nat → Nat) (ci : Nat) (n : Nat) : RR (fil hr ci n).1 (fil hr ci n).2 ∧ (fil hr ci n).1 < 256 := by
  induction n with
  | zero => exact fil_ok0 hr ci
  | succ n ih =>
    by_cases h : hr n &&& ci = 0
    · rw [fil_n h]
      exact ih
    · have r1 := RR_sp (u := (fil hr ci n).1) (M := (fil hr ci n).2) ih.1 n
      have r2 := spU_lt (u := (fil hr ci n).1) (M := (fil hr ci n).2) ih.2 n
      rw [fil_y h]
      generalize spU (fil hr ci n).1 (fil hr ci n).2 n = a at r1 r2 ⊢
      generalize spM (fil hr ci n).1 (fil hr ci n).2 n = b at r1 ⊢
      exact ⟨r1, r2⟩
theorem RR_agr {u : Nat} {M M' : Nat → Nat → Int} (h : agr u M M') (hR : RR u M') : RR u M := fun n q hn hq bn bq e => by rw [h n bn]; exact hR n q hn hq bn bq e
def filU (hr : Nat → Nat) (ci : Nat) : Nat := (fil hr ci 256).1
def filM (hr : Nat → Nat) (ci : Nat) : Nat → Nat → Int := (fil hr ci 256).2
/-- who is given away by all that was told to ci -/
def GA (hr : Nat → Nat) (ci : Nat) : Nat := alo (filU hr ci) (filM hr ci)
/-- .. and by the sum of s -/
def GW (hr : Nat → Nat) (ci s : Nat) : Nat := alo (spU (filU hr ci) (filM hr ci) s) (spM (filU hr ci) (filM hr ci) s)
theorem alo_lt (u : Nat) (M : Nat → Nat → Int) : alo u M < 256 := aloN_lt u M 8
/-- the rows of the machine stand for those of fil -/
def isF (hr : Nat → Nat) (ci n u : Nat) (M : Nat → Nat → Int) : Prop := u = (fil hr ci n).1 ∧ agr u M (fil hr ci n).2 ∧ ∀ q, q < 8 → zb (M q)
theorem isF_0 {hr : Nat → Nat} {ci : Nat} {M : Nat → Nat → Int} (h : ∀ q, q < 8 → zb (M q)) : isF hr ci 0 0 M := ⟨rfl, (fun n hn => absurd hn (by rw [Nat.zero_testBit]; decide)), h⟩
theorem isF_n {hr : Nat → Nat} {ci n u : Nat} {M : Nat → Nat → Int} (h : isF hr ci n u M) (hz : hr n &&& ci = 0) : isF hr ci (n + 1) u M := by
  unfold isF
  rw [fil_n hz]
  exact h
theorem isF_y {hr : Nat → Nat} {ci n u : Nat} {M : Nat → Nat → Int} (h : isF hr ci n u M) (hz : hr n &&& ci ≠ 0) : isF hr ci (n + 1) (spU u M n) (spM u M n) := by
  obtain ⟨h1, h2, h3⟩ := h
  have e1 := spU_agr h2 n
  have e2 := spM_agr h2 n
  have e3 := zb_spM (u := u) h3 n
  unfold isF
  rw [fil_y hz, ← h1]
  generalize hM : (fil hr ci n).2 = M' at h2 e1 e2 ⊢
  generalize spU u M n = a at e1 e2 ⊢
  generalize spM u M n = b at e2 e3 ⊢
  generalize spU u M' n = a' at e1 ⊢
  generalize spM u M' n = b' at e2 ⊢
  exact ⟨e1, e2, e3⟩
theorem isF_lt {hr : Nat → Nat} {ci n u : Nat} {M : Nat → Nat → Int} (h : isF hr ci n u M) : u < 256 := by
  rw [h.1]
  exact (fil_ok hr ci n).2
theorem isF_free {hr : Nat → Nat} {ci n u : Nat} {M : Nat → Nat → Int} (h : isF hr ci n u M) (s : Nat) : fnz (rst u M s) < 8 → u.testBit (fnz (rst u M s)) = false := by
  refine fnz_free (RR_agr h.2.1 ?_) s
  rw [h.1]
  exact (fil_ok hr ci n).1
theorem GA_of {hr : Nat → Nat} {ci u : Nat} {M : Nat → Nat → Int} (h : isF hr ci 256 u M) : alo u M = GA hr ci := by
  rw [alo_agr h.2.1, h.1]
  rfl
theorem GW_of {hr : Nat → Nat} {ci u : Nat} {M : Nat → Nat → Int} (h : isF hr ci 256 u M) (s : Nat) : alo (spU u M s) (spM u M s) = GW hr ci s := by
  have e1 := spU_agr h.2.1 s
  have e2 := alo_agr (spM_agr h.2.1 s)
  rw [e2, e1, h.1]
  rfl
theorem GA_lt (hr : Nat → Nat) (ci : Nat) : GA hr ci < 256 := alo_lt _ _
theorem GW_lt (hr : Nat → Nat) (ci s : Nat) : GW hr ci s < 256 := alo_lt _ _
/-- what is held of the rows of fil -/
theorem rst_of {hr : Nat → Nat} {ci u : Nat} {M : Nat → Nat → Int} (h : isF hr ci 256 u M) (s : Nat) : rst u M s = rst (filU hr ci) (filM hr ci) s := by
  have e : u = filU hr ci := h.1
  rw [rst_agr h.2.1, e]
  rfl
