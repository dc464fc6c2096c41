theorem kc12 : (Jvm.Cond.classLink "SquareAlbumLaw" (7 : Nat) "SquareAlbum") ∈ gtbl := gtbl_of (List.mem_of_getElem? (i := 12) (by decide +kernel)) rfl
theorem kc13 : (Jvm.Cond.instantiable "SquareAlbum" (8 : Nat)) ∈ gtbl := gtbl_of (List.mem_of_getElem? (i := 13) (by decide +kernel)) rfl
theorem kc20 : (Jvm.Cond.classLink "SquareAlbum" (9 : Nat) "SquareAlbum$TextReader") ∈ gtbl := gtbl_of (List.mem_of_getElem? (i := 20) (by decide +kernel)) rfl
theorem kc21 : (Jvm.Cond.instantiable "SquareAlbum$TextReader" (7 : Nat)) ∈ gtbl := gtbl_of (List.mem_of_getElem? (i := 21) (by decide +kernel)) rfl
theorem kc51 : (Jvm.Cond.classLink "SquareAlbum" (16 : Nat) "SquareAlbum$Notes") ∈ gtbl := gtbl_of (List.mem_of_getElem? (i := 51) (by decide +kernel)) rfl
theorem kc52 : (Jvm.Cond.instantiable "SquareAlbum$Notes" (6 : Nat)) ∈ gtbl := gtbl_of (List.mem_of_getElem? (i := 52) (by decide +kernel)) rfl
theorem kc84 : (Jvm.Cond.classLink "SquareAlbum" (31 : Nat) "SquareAlbum$ClockSetter") ∈ gtbl := gtbl_of (List.mem_of_getElem? (i := 84) (by decide +kernel)) rfl
theorem kc85 : (Jvm.Cond.instantiable "SquareAlbum$ClockSetter" (5 : Nat)) ∈ gtbl := gtbl_of (List.mem_of_getElem? (i := 85) (by decide +kernel)) rfl
theorem kc109 : (Jvm.Cond.classLink "SquareAlbum" (38 : Nat) "SquareAlbum$Scene") ∈ gtbl := gtbl_of (List.mem_of_getElem? (i := 109) (by decide +kernel)) rfl
theorem kc110 : (Jvm.Cond.instantiable "SquareAlbum$Scene" (14 : Nat)) ∈ gtbl := gtbl_of (List.mem_of_getElem? (i := 110) (by decide +kernel)) rfl
theorem kc673 : (Jvm.Cond.classLink "SquareAlbumLaw" (10 : Nat) "SquareAlbumModel") ∈ gtbl := gtbl_of (List.mem_of_getElem? (i := 673) (by decide +kernel)) rfl
theorem kc674 : (Jvm.Cond.instantiable "SquareAlbumModel" (38 : Nat)) ∈ gtbl := gtbl_of (List.mem_of_getElem? (i := 674) (by decide +kernel)) rfl
abbrev zB (E : Env5) (n : Nat) : va_E := .inl (eC E 0, n, .inl (fun _ => 0))
abbrev zI (E : Env5) (n : Nat) : va_E := .inl (eC E 1, n, .inl (fun _ => 0))
abbrev zJ (E : Env5) (n : Nat) : va_E := .inl (eC E 2, n, .inr (.inl (fun _ => 0)))
abbrev zZ (E : Env5) (n : Nat) : va_E := .inl (eC E 3, n, .inl (fun _ => 0))
abbrev cIa (E : Env5) (n : Nat) (f : Nat → Int32) : va_E := .inl (eC E 1, n, .inl f)
abbrev cQa (E : Env5) (n : Nat) (f : Nat → Option Nat) : va_E := .inl (eC E 4, n, .inr (.inr (.inr (.inr f))))
def hatC : Nat → Nat → Int32
  | 0 => fun _ => 0
  | i + 1 => upd (hatC i) i 2
def lu (l : List Nat) (k : Nat) : Nat := l.getD k 0
