section FWL
variable {D : Dr} {X p1 : Int} {h : Hp}
/-- dimensions whose bit is set -/
def bt (p1 d : Int) : Prop := ¬ p1 / pw2 d % 2 = 0
end FWL
