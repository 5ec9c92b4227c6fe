theorem cw_iadd {l : Launch} {D : va_G} {Y : MD} {lv mc ms : Nat} {E : va_W → TyL → Prop} {ls : List (Nat × Value)} {pc : Nat} {st : List Value} {ws : va_W} {tys : TyL} {nc ns : Nat} {x y : Int32} (v : Int32) (hdg : decode Y.2.1 pc = .ok (.iadd, 1)) (hv : x + y = v) (k : CW l D Y lv mc ms E ls (pc + 1) (.int v :: st) ws tys nc ns) : CW l D Y lv mc ms E ls pc (.int y :: .int x :: st) ws tys nc ns :=
  fun p e s m args below meth c H locs A L hc hL hP hD hK hS hA hZ => lv_iadd hc.1 hc.2.1 hdg (hv ▸ k p e s m args below meth c H locs A L hc hL hP hD hK hS hA hZ)
theorem tyx2 (o r : TyL) (x : ClassId × FieldType) : ∀ q ∈ (o ++ [x]) ++ r, q ∈ (o ++ r) ++ [x] := fun q hq => by
  rcases List.mem_append.mp hq with h | h
  · rcases List.mem_append.mp h with h | h
    · exact List.mem_append_left _ (List.mem_append_left _ h)
    · exact List.mem_append_right _ h
  · exact List.mem_append_left _ (List.mem_append_right _ h)
theorem tyx3 (o r b : TyL) : ∀ q ∈ o ++ (b ++ r), q ∈ (o ++ r) ++ b := fun q hq => by
  rcases List.mem_append.mp hq with h | h
  · exact List.mem_append_left _ (List.mem_append_left _ h)
  · rcases List.mem_append.mp h with h | h
    · exact List.mem_append_right _ h
    · exact List.mem_append_left _ (List.mem_append_right _ h)
