/-! odds: the reference's count, and both -/
section OM
variable {n o : Nat} {κ : Nat → Nat} {φ : Nat → Nat → Bool} {st : kS} {Q : Int32 × kS → Prop}
end OM
