theorem bz_abs (b : Bool) : (bz b).natAbs ≤ 1 := by cases b <;> decide
theorem abs_mul {a b : Int} {m n : Nat} (ha : a.natAbs ≤ m) (hb : b.natAbs ≤ n) : (a * b).natAbs ≤ m * n := by rw [Int.natAbs_mul]; exact Nat.mul_le_mul ha hb
theorem el_abs {p v : Nat → Int} {c k m : Nat} (hp : (p c).natAbs ≤ m) (hpk : (p k).natAbs ≤ m) (hv : (v c).natAbs ≤ m) (hvk : (v k).natAbs ≤ m) : (el p c v k).natAbs ≤ m * m + m * m := by
  have h1 := abs_mul hp hvk
  have h2 := abs_mul hv hpk
  show (p c * v k - v c * p k).natAbs ≤ _
  omega
def Bd : Nat → ((Nat → Int) → Prop) → Prop
  | 0, F => ∀ v, F v → b01 v
  | 1, F => ∃ y c, b01 y ∧ c < 8 ∧ y c ≠ 0 ∧ ∀ v, F v → ∃ x, b01 x ∧ v = el y c x
  | 2, F => ∃ y1 c1 y2 c2, b01 y1 ∧ b01 y2 ∧ (c1 < 8 ∧ c2 < 8) ∧ y1 c1 ≠ 0 ∧ ∀ v, F v → ∃ x, b01 x ∧ v = el (el y1 c1 y2) c2 (el y1 c1 x)
  | 3, F => ∀ v, F v → ∀ k, k < 8 → (v k).natAbs ≤ 3
  | 4, F => ∀ v, F v → ∀ k, k < 8 → (v k).natAbs ≤ 18
  | 5, F => ∀ v, F v → ∀ k, k < 8 → (v k).natAbs ≤ 648
  | _, _ => True
theorem b01_1 {y : Nat → Int} (h : b01 y) {c : Nat} (hc : c < 8) (hn : y c ≠ 0) : y c = 1 := by
  obtain ⟨b, hb⟩ := h c hc
  rw [hb] at hn ⊢
  cases b
  · exact absurd rfl hn
  · rfl
theorem el1_abs {y x : Nat → Int} {c : Nat} (hy : b01 y) (hx : b01 x) (hc : c < 8) (hn : y c ≠ 0) {k : Nat} (hk : k < 8) : (el y c x k).natAbs ≤ 1 := by
  have h1 := b01_1 hy hc hn
  obtain ⟨b1, e1⟩ := hx k hk
  obtain ⟨b2, e2⟩ := hx c hc
  obtain ⟨b3, e3⟩ := hy k hk
  show (y c * x k - x c * y k).natAbs ≤ 1
  rw [h1, e1, e2, e3]
  cases b1 <;> cases b2 <;> cases b3 <;> decide
theorem el3_abs {y1 y2 y3 x : Nat → Int} {c1 c2 c k : Nat} (h1 : b01 y1) (h2 : b01 y2) (h3 : b01 y3) (hx : b01 x) (hc1 : c1 < 8) (hc2 : c2 < 8) (hc : c < 8) (hk : k < 8) (hn : y1 c1 ≠ 0) : (el (el (el y1 c1 y2) c2 (el y1 c1 y3)) c (el (el y1 c1 y2) c2 (el y1 c1 x)) k).natAbs ≤ 3 := by
  have e0 := b01_1 h1 hc1 hn
  have ha := el1_abs h1 h2 hc1 hn hc2
  obtain ⟨p1, ep1⟩ := h1 c2 hc2
  obtain ⟨p2, ep2⟩ := h1 c hc
  obtain ⟨p3, ep3⟩ := h1 k hk
  obtain ⟨t, et⟩ := h2 c1 hc1
  obtain ⟨a, ea⟩ := h2 c2 hc2
  obtain ⟨b, eb⟩ := h2 c hc
  obtain ⟨d, ed⟩ := h2 k hk
  obtain ⟨u, eu⟩ := h3 c1 hc1
  obtain ⟨a2, ea2⟩ := h3 c2 hc2
  obtain ⟨b2, eb2⟩ := h3 c hc
  obtain ⟨d2, ed2⟩ := h3 k hk
  obtain ⟨w, ew⟩ := hx c1 hc1
  obtain ⟨a3, ea3⟩ := hx c2 hc2
  obtain ⟨b3, eb3⟩ := hx c hc
  obtain ⟨d3, ed3⟩ := hx k hk
  have hck := ck3_all p1 p2 p3 t a b d u a2 b2 d2 w a3 b3 d3
  unfold ck3 at hck
  have hck := of_decide_eq_true hck
  have e : el (el (el y1 c1 y2) c2 (el y1 c1 y3)) c (el (el y1 c1 y2) c2 (el y1 c1 x)) k = el y1 c1 y2 c2 * dt3 (bz a - bz t * bz p1) (bz b - bz t * bz p2) (bz d - bz t * bz p3) (bz a2 - bz u * bz p1) (bz b2 - bz u * bz p2) (bz d2 - bz u * bz p3) (bz a3 - bz w * bz p1) (bz b3 - bz w * bz p2) (bz d3 - bz w * bz p3) := by
    unfold dt3 el
    rw [e0, ← ep1, ← ep2, ← ep3, ← et, ← ea, ← eb, ← ed, ← eu, ← ea2, ← eb2, ← ed2, ← ew, ← ea3, ← eb3, ← ed3]
    grind
  rw [e]
  exact abs_mul ha hck
theorem Bd_step {G G' : (Nat → Int) → Prop} {P : Nat → Int} {c : Nat} (hG : ∀ w, G' w → ∃ v, G v ∧ w = el P c v) (hP : G P) (hc : c < 8) (hPc : P c ≠ 0) : ∀ j, Bd j G → Bd (j + 1) G'
  | 0, h => ⟨P, c, h P hP, hc, hPc, fun w hw => by obtain ⟨v, hv, e⟩ := hG w hw; exact ⟨v, h v hv, e⟩⟩
  | 1, ⟨y, c1, hy, hc1, hn, h⟩ => by
    obtain ⟨y2, h2, rfl⟩ := h P hP
    exact ⟨y, c1, y2, c, hy, h2, ⟨hc1, hc⟩, hn, fun w hw => by
      obtain ⟨v, hv, e⟩ := hG w hw
      obtain ⟨x, hx, rfl⟩ := h v hv
      exact ⟨x, hx, e⟩⟩
  | 2, ⟨y1, c1, y2, c2, h1, h2, ⟨hc1, hc2⟩, hn, h⟩ => by
    obtain ⟨y3, h3, rfl⟩ := h P hP
    intro w hw k hk
    obtain ⟨v, hv, rfl⟩ := hG w hw
    obtain ⟨x, hx, rfl⟩ := h v hv
    exact el3_abs h1 h2 h3 hx hc1 hc2 hc hk hn
  | 3, h => fun w hw k hk => by
    obtain ⟨v, hv, rfl⟩ := hG w hw
    exact el_abs (m := 3) (h P hP c hc) (h P hP k hk) (h v hv c hc) (h v hv k hk)
  | 4, h => fun w hw k hk => by
    obtain ⟨v, hv, rfl⟩ := hG w hw
    exact el_abs (m := 18) (h P hP c hc) (h P hP k hk) (h v hv c hc) (h v hv k hk)
  | 5, _ => trivial
  | _ + 6, _ => trivial
theorem Bd_abs {G : (Nat → Int) → Prop} : ∀ j, j ≤ 5 → Bd j G → ∀ v, G v → ∀ k, k < 8 → (v k).natAbs ≤ 648
  | 0, _, h, v, hv, k, hk => by
    obtain ⟨b, e⟩ := h v hv k hk
    rw [e]
    exact Nat.le_trans (bz_abs b) (by decide)
  | 1, _, ⟨y, c, hy, hc, hn, h⟩, v, hv, k, hk => by
    obtain ⟨x, hx, rfl⟩ := h v hv
    exact Nat.le_trans (el1_abs hy hx hc hn hk) (by decide)
  | 2, _, ⟨y1, c1, y2, c2, h1, h2, ⟨hc1, hc2⟩, hn, h⟩, v, hv, k, hk => by
    obtain ⟨x, hx, rfl⟩ := h v hv
    exact Nat.le_trans (el_abs (m := 1) (el1_abs h1 h2 hc1 hn hc2) (el1_abs h1 h2 hc1 hn hk) (el1_abs h1 hx hc1 hn hc2) (el1_abs h1 hx hc1 hn hk)) (by decide)
  | 3, _, h, v, hv, k, hk => Nat.le_trans (h v hv k hk) (by decide)
  | 4, _, h, v, hv, k, hk => Nat.le_trans (h v hv k hk) (by decide)
  | 5, _, h, v, hv, k, hk => h v hv k hk
  | _ + 6, h, _, _, _, _, _ => by omega
theorem cl_at {q : Int} (hq : prm q) {c : Nat} (hc : c < 8) : cl q (fun v => q ∣ v c) := by
  refine ⟨⟨0, by rw [Int.mul_zero]⟩, fun u v hu hv => ?_, fun a u hu => ?_, fun u v e hu => ?_, fun b u hb hu => (hq b (u c) hu).resolve_left hb⟩
  · have h := dv_lin (x := 1) (y := 1) hu hv
    rw [Int.one_mul, Int.one_mul] at h
    exact h
  · show q ∣ a * u c
    obtain ⟨d, e⟩ := hu
    exact ⟨a * d, by rw [e]; grind⟩
  · have h := dv_lin (x := 1) (y := -1) hu (e c hc)
    rw [show (1 : Int) * u c + -1 * (u c - v c) = v c by grind] at h
    exact h
theorem dv_small {q a : Int} {m : Nat} (hq : (m : Int) < q) (ha : a.natAbs ≤ m) (h : q ∣ a) : a = 0 := by
  obtain ⟨d, e⟩ := h
  by_cases h0 : d = 0
  · rw [e, h0, Int.mul_zero]
  · exfalso
    have h1 : 1 ≤ d.natAbs := by omega
    have h2 : a.natAbs = q.natAbs * d.natAbs := by rw [e, Int.natAbs_mul]
    have h3 := Nat.mul_le_mul (Nat.le_refl q.natAbs) h1
    omega
theorem cross_lev : ∀ (m j c : Nat) (F : (Nat → Int) → Prop) (e : Nat → Int), c + m = 6 → j ≤ c → Bd j (fun v => F v ∨ v = e) → (∀ v, (F v ∨ v = e) → ∀ k, k < 8 → (k < c ∨ 6 ≤ k) → v k = 0) → Sp 1000003 F e → Sp 1009 F e
  | 0, _, c, F, e, hc, _, _, hz, _ => (Sp_cl 1009 F).eq (fun k hk => (hz e (Or.inr rfl) k hk (by omega)).symm) (Sp_cl 1009 F).1
  | m + 1, j, c, F, e, hc, hj, hB, hz, hS => by
    have hc8 : c < 8 := by omega
    have hab := Bd_abs j (by omega) hB
    by_cases hp : ∃ P, F P ∧ P c ≠ 0
    · obtain ⟨P, hF, hPc⟩ := hp
      have hu : ¬ (1009 : Int) ∣ P c := fun z => hPc (dv_small (m := 648) (by decide) (hab P (Or.inl hF) c hc8) z)
      have h1 : Sp 1000003 (fun w => ∃ v, F v ∧ w = el P c v) (el P c e) := Sp_el hc8 (fun u hu => Sp.of ⟨u, hu, rfl⟩) hS
      have h2 := cross_lev m (j + 1) (c + 1) (fun w => ∃ v, F v ∧ w = el P c v) (el P c e) (by omega) (by omega) (Bd_step (G := fun v => F v ∨ v = e) (fun w hw => by
        rcases hw with ⟨v, hv, rfl⟩ | rfl
        · exact ⟨v, Or.inl hv, rfl⟩
        · exact ⟨e, Or.inr rfl, rfl⟩) (Or.inl hF) hc8 hPc j hB) (fun w hw k hk hkc => by
        have key : ∀ v, (F v ∨ v = e) → el P c v k = 0 := fun v hv => by
          by_cases ek : k = c
          · rw [ek]; exact el_c P c v
          · have a1 := hz v hv k hk (by omega)
            have a2 := hz P (Or.inl hF) k hk (by omega)
            show P c * v k - v c * P k = 0
            rw [a1, a2, Int.mul_zero, Int.mul_zero, Int.sub_zero]
        rcases hw with ⟨v, hv, rfl⟩ | rfl
        · exact key v (Or.inl hv)
        · exact key e (Or.inr rfl)) h1
      have hC := Sp_cl 1009 F
      refine Sp_unel (p := P) (c := c) (Sp.of hF) hu (h2.mono (fun w hw => ?_))
      obtain ⟨v, hv, rfl⟩ := hw
      refine hC.eq (fun k _ => ?_) (hC.lin (P c) (- v c) (Sp.of hv) (Sp.of hF))
      show P c * v k + - v c * P k = P c * v k - v c * P k
      grind
    · have h0 : ∀ v, F v → v c = 0 := fun v hv => Classical.byContradiction fun h => hp ⟨v, hv, h⟩
      have he : e c = 0 := dv_small (m := 648) (by decide) (hab e (Or.inr rfl) c hc8) (hS _ (cl_at prm1M hc8) (fun u hu => ⟨0, by rw [h0 u hu, Int.mul_zero]⟩))
      exact cross_lev m j (c + 1) F e (by omega) (by omega) hB (fun v hv k hk hkc => by
        by_cases ek : k = c
        · rw [ek]
          rcases hv with hv | rfl
          · exact h0 v hv
          · exact he
        · exact hz v hv k hk (by omega)) hS
/-- the bits of a set as a vector -/
def bv (x : Nat) : Nat → Int := fun k => bz (x.testBit k)
theorem bv_01 (x : Nat) : b01 (bv x) := fun k _ => ⟨_, rfl⟩
theorem cross {F : Nat → Prop} {x : Nat} (hF : ∀ y, F y → y < 64) (hx : x < 64) (h : Sp 1000003 (fun v => ∃ y, F y ∧ v = bv y) (bv x)) : Sp 1009 (fun v => ∃ y, F y ∧ v = bv y) (bv x) := by
  refine cross_lev 6 0 0 _ _ rfl (Nat.le_refl 0) ?_ ?_ h
  · rintro v (⟨y, _, rfl⟩ | rfl)
    · exact bv_01 y
    · exact bv_01 x
  · have key : ∀ y, y < 64 → ∀ k, k < 8 → (k < 0 ∨ 6 ≤ k) → bv y k = 0 := fun y hy k _ hk => by
      show bz (y.testBit k) = 0
      rw [Nat.testBit_lt_two_pow (Nat.lt_of_lt_of_le (show y < 2 ^ 6 from hy) (Nat.pow_le_pow_right (n := 2) (by decide) (show 6 ≤ k by omega)))]
      rfl
    rintro v (⟨y, hy, rfl⟩ | rfl)
    · exact key y (hF y hy)
    · exact key x hx
