section
variable {own : String} {cc : ByteArray} {nL : Nat} {ret : Option FieldType} {ini : Bool} {d mc ms : Nat} {post : Option Int32 → List Shp → Mem → Prop} {pc : Nat} {loc : List (Option Value)} {stk : List Value} {sh : List Shp} {μ μr : Mem} {nc ns : Nat}
theorem ev_em {x v : Int32} (k1 : x = v → Ev own cc nL ret ini d mc ms post pc loc (.int x :: stk) sh μ nc ns) (k2 : ¬ x = v → Ev own cc nL ret ini d mc ms post pc loc (.int x :: stk) sh μ nc ns) : Ev own cc nL ret ini d mc ms post pc loc (.int x :: stk) sh μ nc ns :=
  if g : x = v then k1 g else k2 g
theorem pastF_at {i : Int32} (h : vp_in i 6) : pastF (ix i) = some (57 + 6 * ix i) := by
  have : ix i < 6 := Nat.not_le.mp fun q => h (Or.inr q)
  simp [pastF, this]
theorem pastAt {bb : Bool} {i : Int32} (h : vp_in i 6) : At_X8 (shC bb) (57 + 6 * ix i) := by
  have hlt : ix i < 6 := Nat.not_le.mp fun q => h (Or.inr q)
  rcases (by omega : ix i = 0 ∨ ix i = 1 ∨ ix i = 2 ∨ ix i = 3 ∨ ix i = 4 ∨ ix i = 5) with e | e | e | e | e | e <;> rw [e]
  · exact atC_57
  · exact atC_63
  · exact atC_69
  · exact atC_75
  · exact atC_81
  · exact atC_87
end
