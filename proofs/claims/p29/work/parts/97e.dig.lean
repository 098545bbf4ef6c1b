section DIG
def itr (g : Int → Int) (X : Int) : Nat → Int
  | 0 => X
  | k + 1 => 31 * itr g X k + g k
variable {D : Dr} {K : Int} {B : Int → Dr} {h0 h : Hp}
variable {Q : Int → Hp → Prop}
end DIG
