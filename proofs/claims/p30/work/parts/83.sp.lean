/-! spans modulo a prime: what can be put together, up to a number that isn't 0 -/
theorem dv_lin {q a b x y : Int} (ha : q ∣ a) (hb : q ∣ b) : q ∣ x * a + y * b := by
  obtain ⟨c, rfl⟩ := ha
  obtain ⟨d, rfl⟩ := hb
  exact ⟨x * c + y * d, by grind⟩
theorem dv_eq {q a b : Int} (h : a = b) : q ∣ a - b := by rw [h, Int.sub_self]; exact ⟨0, by rw [Int.mul_zero]⟩
def cl (q : Int) (P : (Nat → Int) → Prop) : Prop := P (fun _ => 0) ∧ (∀ u v, P u → P v → P (fun k => u k + v k)) ∧ (∀ (a : Int) u, P u → P (fun k => a * u k)) ∧ (∀ u v, (∀ k, k < 8 → q ∣ u k - v k) → P u → P v) ∧ (∀ (b : Int) u, ¬ q ∣ b → P (fun k => b * u k) → P u)
def Sp (q : Int) (S : (Nat → Int) → Prop) (v : Nat → Int) : Prop := ∀ P, cl q P → (∀ u, S u → P u) → P v
theorem Sp.of {q : Int} {S : (Nat → Int) → Prop} {u : Nat → Int} (h : S u) : Sp q S u := fun _ _ hS => hS u h
theorem Sp_cl (q : Int) (S : (Nat → Int) → Prop) : cl q (Sp q S) := ⟨fun _ hc _ => hc.1, fun u v hu hv P hc hS => hc.2.1 u v (hu P hc hS) (hv P hc hS), fun a u hu P hc hS => hc.2.2.1 a u (hu P hc hS), fun u v e hu P hc hS => hc.2.2.2.1 u v e (hu P hc hS), fun b u hb hu P hc hS => hc.2.2.2.2 b u hb (hu P hc hS)⟩
theorem Sp.mono {q : Int} {S T : (Nat → Int) → Prop} {v : Nat → Int} (h : Sp q S v) (hST : ∀ u, S u → Sp q T u) : Sp q T v := h _ (Sp_cl q T) hST
theorem cl.eq {q : Int} {P : (Nat → Int) → Prop} (h : cl q P) {u v : Nat → Int} (e : ∀ k, k < 8 → u k = v k) (hu : P u) : P v := h.2.2.2.1 u v (fun k hk => dv_eq (e k hk)) hu
theorem cl.lin {q : Int} {P : (Nat → Int) → Prop} (h : cl q P) (a b : Int) {u v : Nat → Int} (hu : P u) (hv : P v) : P (fun k => a * u k + b * v k) := h.2.1 _ _ (h.2.2.1 a u hu) (h.2.2.1 b v hv)
/-- v with its place c made 0 by the row p -/
def el (p : Nat → Int) (c : Nat) (v : Nat → Int) : Nat → Int := fun k => p c * v k - v c * p k
theorem el_c (p : Nat → Int) (c : Nat) (v : Nat → Int) : el p c v c = 0 := by show p c * v c - v c * p c = 0; grind
theorem el_self (p : Nat → Int) (c k : Nat) : el p c p k = 0 := by show p c * p k - p c * p k = 0; exact Int.sub_self _
theorem cl_el {q : Int} (p : Nat → Int) {c : Nat} (hc : c < 8) {P : (Nat → Int) → Prop} (hP : cl q P) : cl q (fun v => P (el p c v)) := by
  refine ⟨hP.eq (fun k _ => ?_) hP.1, fun u v hu hv => hP.eq (fun k _ => ?_) (hP.2.1 _ _ hu hv), fun a u hu => hP.eq (fun k _ => ?_) (hP.2.2.1 a _ hu), fun u v e hu => hP.2.2.2.1 _ _ (fun k hk => ?_) hu, fun b u hb hu => hP.2.2.2.2 b _ hb (hP.eq (fun k _ => ?_) hu)⟩
  · show (0 : Int) = p c * 0 - 0 * p k
    grind
  · show (p c * u k - u c * p k) + (p c * v k - v c * p k) = p c * (u k + v k) - (u c + v c) * p k
    grind
  · show a * (p c * u k - u c * p k) = p c * (a * u k) - (a * u c) * p k
    grind
  · show q ∣ (p c * u k - u c * p k) - (p c * v k - v c * p k)
    have h := dv_lin (x := p c) (y := - p k) (e k hk) (e c hc)
    have e2 : p c * (u k - v k) + - p k * (u c - v c) = (p c * u k - u c * p k) - (p c * v k - v c * p k) := by grind
    rw [← e2]
    exact h
  · show p c * (b * u k) - (b * u c) * p k = b * (p c * u k - u c * p k)
    grind
/-- .. modulo q it goes both ways -/
theorem Sp_el {q : Int} {S S' : (Nat → Int) → Prop} {p : Nat → Int} {c : Nat} (hc : c < 8) (hS : ∀ u, S u → Sp q S' (el p c u)) {v : Nat → Int} (h : Sp q S v) : Sp q S' (el p c v) := h _ (cl_el p hc (Sp_cl q S')) hS
theorem Sp_unel {q : Int} {S : (Nat → Int) → Prop} {p : Nat → Int} {c : Nat} (hp : Sp q S p) (hb : ¬ q ∣ p c) {v : Nat → Int} (h : Sp q S (el p c v)) : Sp q S v := by
  have hC := Sp_cl q S
  refine hC.2.2.2.2 (p c) v hb (hC.eq (fun k _ => ?_) (hC.lin 1 (v c) h hp))
  show 1 * (p c * v k - v c * p k) + v c * p k = p c * v k
  grind
/-! the two primes -/
def prm (q : Int) : Prop := ∀ a b : Int, q ∣ a * b → q ∣ a ∨ q ∣ b
theorem prm_of {q : Nat} (hq : 1 < q) (h : ∀ d, d ∣ q → d = 1 ∨ d = q) : prm (q : Int) := by
  intro a b hab
  by_cases ha : (q : Int) ∣ a
  · exact Or.inl ha
  · right
    have h1 : q ∣ a.natAbs * b.natAbs := by
      rw [← Int.natAbs_mul]
      exact Int.ofNat_dvd_left.mp hab
    have hc : Nat.Coprime q a.natAbs := by
      rcases h (Nat.gcd q a.natAbs) (Nat.gcd_dvd_left _ _) with e | e
      · exact e
      · exact absurd (Int.ofNat_dvd_left.mpr (by rw [← e]; exact Nat.gcd_dvd_right _ _)) ha
    exact Int.ofNat_dvd_left.mpr (hc.dvd_of_dvd_mul_left h1)
theorem prm_small {q m : Nat} (hm : q < (m + 1) * (m + 1)) (h : ∀ d, d ≤ m → 2 ≤ d → ¬ d ∣ q) (hq : 1 < q) : ∀ d, d ∣ q → d = 1 ∨ d = q := by
  intro d hd
  obtain ⟨e, he⟩ := hd
  have hd0 : d ≠ 0 := by rintro rfl; rw [Nat.zero_mul] at he; omega
  have he0 : e ≠ 0 := by rintro rfl; rw [Nat.mul_zero] at he; omega
  by_cases h1 : d ≤ m
  · by_cases h2 : 2 ≤ d
    · exact absurd ⟨e, he⟩ (h d h1 h2)
    · left; omega
  · by_cases h3 : e ≤ m
    · by_cases h2 : 2 ≤ e
      · exact absurd ⟨d, by rw [he, Nat.mul_comm]⟩ (h e h3 h2)
      · right
        have e1 : e = 1 := by omega
        rw [he, e1, Nat.mul_one]
    · have := Nat.mul_le_mul (show m + 1 ≤ d by omega) (show m + 1 ≤ e by omega)
      omega
theorem prm1009 : prm 1009 := prm_of (q := 1009) (by decide) (prm_small (m := 31) (by decide) (by decide) (by decide))
set_option maxRecDepth 100000 in
theorem prm1M : prm 1000003 := prm_of (q := 1000003) (by decide) (prm_small (m := 1000) (by decide) (by decide +kernel) (by decide))
theorem prm.mul {q : Int} (h : prm q) {a b : Int} (ha : ¬ q ∣ a) (hb : ¬ q ∣ b) : ¬ q ∣ a * b := fun z => (h a b z).elim ha hb
/-! leading places, and their count -/
def ld (q : Int) (S : (Nat → Int) → Prop) (c : Nat) : Prop := ∃ v, Sp q S v ∧ (∀ k, k < c → q ∣ v k) ∧ ¬ q ∣ v c
/-- r of the first n places lead -/
def cnt (P : Nat → Prop) : Nat → Nat → Prop
  | 0, r => r = 0
  | n + 1, r => (P n ∧ ∃ s, r = s + 1 ∧ cnt P n s) ∨ (¬ P n ∧ cnt P n r)
theorem cnt_le {P Q : Nat → Prop} (h : ∀ c, P c → Q c) : ∀ n r s, cnt P n r → cnt Q n s → r ≤ s ∧ (r = s → ∀ c, c < n → Q c → P c)
  | 0, r, s, hr, hs => ⟨by rw [show r = 0 from hr]; exact Nat.zero_le _, fun _ c hc => absurd hc (Nat.not_lt_zero c)⟩
  | n + 1, r, s, hr, hs => by
    rcases hr with ⟨hp, r', er, hr⟩ | ⟨hp, hr⟩ <;> rcases hs with ⟨hq, s', es, hs⟩ | ⟨hq, hs⟩
    · have ih := cnt_le h n r' s' hr hs
      refine ⟨by omega, fun e c hc hQ => ?_⟩
      by_cases hcn : c = n
      · rw [hcn]; exact hp
      · exact ih.2 (by omega) c (by omega) hQ
    · exact absurd (h n hp) hq
    · have ih := cnt_le h n r s' hr hs
      exact ⟨by omega, fun e => by omega⟩
    · have ih := cnt_le h n r s hr hs
      refine ⟨ih.1, fun e c hc hQ => ?_⟩
      by_cases hcn : c = n
      · rw [hcn] at hQ; exact absurd hQ hq
      · exact ih.2 e c (by omega) hQ
/-- if one more vector leads nowhere else, it is put together of the others -/
theorem Sp_of_ld {q : Int} (hq : prm q) {S S' : (Nat → Int) → Prop} {e : Nat → Int} (hS : ∀ u, S u → S' u) (he : S' e) (h : ∀ c, c < 8 → ld q S' c → ld q S c) (h1 : ¬ q ∣ 1) : Sp q S e := by
  have hC := Sp_cl q S
  have hC' := Sp_cl q S'
  suffices key : ∀ c, c ≤ 8 → ∃ (b : Int) (w : Nat → Int), ¬ q ∣ b ∧ Sp q S (fun k => b * e k - w k) ∧ Sp q S' w ∧ ∀ k, k < c → q ∣ w k by
    obtain ⟨b, w, hb, hw, -, hz⟩ := key 8 (Nat.le_refl 8)
    refine hC.2.2.2.2 b e hb (hC.2.2.2.1 _ _ (fun k hk => ?_) hw)
    show q ∣ b * e k - w k - b * e k
    rw [show b * e k - w k - b * e k = 0 * 0 + (-1) * w k by grind]
    exact dv_lin (by exact ⟨0, by rw [Int.mul_zero]⟩) (hz k hk)
  intro c
  induction c with
  | zero => exact fun _ => ⟨1, e, h1, hC.eq (fun k _ => by show (0 : Int) = 1 * e k - e k; grind) hC.1, Sp.of he, fun k hk => absurd hk (Nat.not_lt_zero k)⟩
  | succ c ih =>
    intro hc
    obtain ⟨b, w, hb, hw, hw', hz⟩ := ih (by omega)
    by_cases hd : q ∣ w c
    · exact ⟨b, w, hb, hw, hw', fun k hk => by by_cases e : k = c; (rw [e]; exact hd); exact hz k (by omega)⟩
    · obtain ⟨u, hu, hu0, huc⟩ := h c (by omega) ⟨w, hw', hz, hd⟩
      refine ⟨u c * b, el u c w, hq.mul huc hb, hC.eq (fun k _ => ?_) (hC.lin (u c) (w c) hw hu), hC'.eq (fun k _ => ?_) (hC'.lin (u c) (- w c) hw' (hu.mono (fun v hv => Sp.of (hS v hv)))), fun k hk => ?_⟩
      · show u c * (b * e k - w k) + w c * u k = u c * b * e k - (u c * w k - w c * u k)
        grind
      · show u c * w k + - w c * u k = u c * w k - w c * u k
        grind
      · by_cases e9 : k = c
        · rw [e9, el_c]; exact ⟨0, by rw [Int.mul_zero]⟩
        · show q ∣ u c * w k - w c * u k
          rw [show u c * w k - w c * u k = u c * w k + (- w c) * u k by grind]
          exact dv_lin (hz k (by omega)) (hu0 k (by omega))
