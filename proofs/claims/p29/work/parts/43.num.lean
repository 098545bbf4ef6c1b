section NUM
theorem hu_hu {h : Hp} {a : Nat} {i v w : Int} : hu (hu h a i v) a i w = hu h a i w := by
  funext c j
  unfold hu
  grind
/-- how many digits stand at c, at most k; what they say behind v -/
def rn (T : Int → Int) (n : Int) : Nat → Int → Int
  | 0, _ => 0
  | k + 1, c => if c < n ∧ 48 ≤ T c ∧ T c ≤ 57 then 1 + rn T n k (c + 1) else 0
/-- where a number of at most k digits at c ends -/
def nx (T : Int → Int) (n : Int) (k : Nat) (c : Int) : Int := c + rn T n k c
end NUM
