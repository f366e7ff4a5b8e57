/-! of sets of at most six people the two primes say the same: the numbers stay too small to tell them apart -/
def bz (b : Bool) : Int := bif b then 1 else 0
def b01 (v : Nat → Int) : Prop := ∀ k, k < 8 → ∃ b, v k = bz b
def dt3 (a b c d e f g h i : Int) : Int := a * (e * i - f * h) - b * (d * i - f * g) + c * (d * h - e * g)
def ck3 (p1 p2 p3 t a b c u d e f w g h i : Bool) : Bool := (dt3 (bz a - bz t * bz p1) (bz b - bz t * bz p2) (bz c - bz t * bz p3) (bz d - bz u * bz p1) (bz e - bz u * bz p2) (bz f - bz u * bz p3) (bz g - bz w * bz p1) (bz h - bz w * bz p2) (bz i - bz w * bz p3)).natAbs ≤ 3
set_option maxRecDepth 100000 in
set_option maxHeartbeats 4000000 in
theorem ck3_all : ∀ p1 p2 p3 t a b c u d e f w g h i : Bool, ck3 p1 p2 p3 t a b c u d e f w g h i = true := by decide +kernel
