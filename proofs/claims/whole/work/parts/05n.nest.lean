/-! the words on nest mates that the Statement holds -/
def tt_isF : Cond → Bool := fun w => match w with
  | .fieldLinkNest _ _ _ _ _ _ => true
  | _ => false
def tt_isM : Cond → Bool := fun w => match w with
  | .methodLinkNest _ _ _ _ => true
  | _ => false
def tt_nF : List Cond := [.fieldLinkNest "TripleTrees" 119 "TripleTrees$Walk" "count" "I" "TripleTrees", .fieldLinkNest "TripleTrees" 120 "TripleTrees$Cursor" "openedAt" "I" "TripleTrees", .fieldLinkNest "TripleTrees" 146 "TripleTrees$Walk" "ints" "[I" "TripleTrees", .fieldLinkNest "TripleTrees" 149 "TripleTrees$Walk" "steps" "[I" "TripleTrees", .fieldLinkNest "TripleTrees" 36 "TripleTrees$Order" "count" "I" "TripleTrees", .fieldLinkNest "TripleTrees" 54 "TripleTrees$Cursor" "isOpen" "Z" "TripleTrees", .fieldLinkNest "TripleTrees" 82 "TripleTrees$Cursor" "order" "I" "TripleTrees", .fieldLinkNest "TripleTrees" 92 "TripleTrees$Cursor" "hasCurrent" "Z" "TripleTrees", .fieldLinkNest "TripleTrees" 95 "TripleTrees$Cursor" "following" "I" "TripleTrees"]
def tt_nM : List Cond := [.methodLinkNest "TripleTrees" 24 ⟨"TripleTrees$Cursor", "<init>", "()V"⟩ "TripleTrees", .methodLinkNest "TripleTrees" 27 ⟨"TripleTrees$Walk", "<init>", "()V"⟩ "TripleTrees"]
