/-! what a task costs: it bends upward -/
def aCost (ki pr ex st e : Int) (x : Int) : Int := pr * (e - x) + (if ki = 2 then st * max 0 (e - ex - x) else 0) + (if ki = 4 then ex * x else 0)
theorem aCost_cvx {ki pr ex st e h : Int} (hs : 0 ≤ st) : Cvx (aCost ki pr ex st e) h e := by
  intro x _ _
  unfold aCost
  have a1 : pr * (e - (x + 1)) = pr * (e - x) - pr := by rw [show e - (x + 1) = (e - x) - 1 by omega, Int.mul_sub, Int.mul_one]
  have a2 : pr * (e - (x - 1)) = pr * (e - x) + pr := by rw [show e - (x - 1) = (e - x) + 1 by omega, Int.mul_add, Int.mul_one]
  have b1 : ex * (x + 1) = ex * x + ex := by rw [Int.mul_add, Int.mul_one]
  have b2 : ex * (x - 1) = ex * x - ex := by rw [Int.mul_sub, Int.mul_one]
  have c1 : 2 * (st * max 0 (e - ex - x)) ≤ st * max 0 (e - ex - (x + 1)) + st * max 0 (e - ex - (x - 1)) := by
    have h1 : 0 ≤ st * (max 0 (e - ex - (x + 1)) + max 0 (e - ex - (x - 1)) - (max 0 (e - ex - x) + max 0 (e - ex - x))) := Int.mul_nonneg hs (by omega)
    rw [Int.mul_sub, Int.mul_add, Int.mul_add] at h1
    omega
  rw [a1, a2, b1, b2]
  by_cases k2 : ki = 2
  · have k4 : ¬ ki = 4 := by omega
    rw [if_pos k2, if_pos k2, if_pos k2, if_neg k4, if_neg k4, if_neg k4]
    omega
  · rw [if_neg k2, if_neg k2, if_neg k2]
    by_cases k4 : ki = 4
    · rw [if_pos k4, if_pos k4, if_pos k4]; omega
    · rw [if_neg k4, if_neg k4, if_neg k4]; omega
