theorem K_uniq {D : va_G} {tys : List (ClassId × FieldType)} {s : State} (hK : va_K D vwCl tys s) {i j : Nat} {c1 c2 : ClassId} {ty : FieldType} (h1 : tys[i]? = some (c1, ty)) (h2 : tys[j]? = some (c2, ty)) (hp : (match ty with | .object _ => false | _ => true) = true) : c1 = c2 := by
  have a := (hK.2 i _ h1).2
  have b := (hK.2 j _ h2).2
  cases ty with
  | object C => cases hp
  | _ =>
    have a : s.vm.findClass _ = some c1 := a
    have b : s.vm.findClass _ = some c2 := b
    exact Option.some.inj (a.symm.trans b)
def logW (h0 q1 q2 q3 q4 : Nat) (cI cL : ClassId) : va_W := [(h0, .inr (0, [.ref q1, .ref q2, .ref q3, .ref q4, .int (nI 0), .int (nI 0), .int (bI false), .int (bI false)])), (q1, .inl (cI, 20, .inl (fun _ => nI 0))), (q2, .inl (cI, 20, .inl (fun _ => nI 0))), (q3, .inl (cI, 20, .inl (fun _ => nI 0))), (q4, .inl (cL, 40, .inr (.inl (fun _ => 0))))]
def cs0 : CS := (fun _ => 0, fun _ => 0, true, false, nI 0, nI 0, 0, 0, nI 0, fun _ => 0, fun _ => 0, fun _ => 0, fun _ => 0, 0, 0, false, false)
def rs0 : RS := (fun _ => 0, fun _ => 0, fun _ => false, 0, fun _ => 0, fun _ => 0, fun _ => 0, fun _ => 0, fun _ => 0, false, false, fun _ => false, 0, 0, nI 0, 0, fun _ => 0, fun _ => 0, fun _ => 0)
