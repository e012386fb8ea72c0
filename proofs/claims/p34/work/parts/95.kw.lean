abbrev kAd (q : Nat → Nat) : List Nat := [q 0]
abbrev kw (q qb qr qe qs qu qx qd : Nat → Nat) (cI : ClassId) (m : Int32) : va_W := [(q 0, .inr (8, [.ref (qb 0), .ref (qr 0), .ref (qe 0), .ref (qs 0), .ref (qu 0), .ref (qx 0), .ref (qd 0), .int m]))]
theorem gpw_0_0 (X X' : va_W) (i : List Nat) (hi : i = List.range' 0 X.length) (h : X.length = X'.length) : gpatch (X) i X' = X' := by
  have r := gpatch_block X X' [] [] h
  rw [hi]
  simp only [List.append_assoc, List.nil_append, List.append_nil, List.length_nil] at r ⊢
  exact r
theorem gpw_0_1 (X X' R1 : va_W) (i : List Nat) (hi : i = List.range' 0 X.length) (h : X.length = X'.length) : gpatch (X ++ R1) i X' = X' ++ R1 := by
  have r := gpatch_block X X' [] R1 h
  rw [hi]
  simp only [List.append_assoc, List.nil_append, List.append_nil, List.length_nil] at r ⊢
  exact r
theorem gpw_0_2 (X X' R1 R2 : va_W) (i : List Nat) (hi : i = List.range' 0 X.length) (h : X.length = X'.length) : gpatch (X ++ R1 ++ R2) i X' = X' ++ R1 ++ R2 := by
  have r := gpatch_block X X' [] (R1 ++ R2) h
  rw [hi]
  simp only [List.append_assoc, List.nil_append, List.append_nil, List.length_nil] at r ⊢
  exact r
theorem gpw_0_3 (X X' R1 R2 R3 : va_W) (i : List Nat) (hi : i = List.range' 0 X.length) (h : X.length = X'.length) : gpatch (X ++ R1 ++ R2 ++ R3) i X' = X' ++ R1 ++ R2 ++ R3 := by
  have r := gpatch_block X X' [] (R1 ++ (R2 ++ R3)) h
  rw [hi]
  simp only [List.append_assoc, List.nil_append, List.append_nil, List.length_nil] at r ⊢
  exact r
theorem gpw_0_4 (X X' R1 R2 R3 R4 : va_W) (i : List Nat) (hi : i = List.range' 0 X.length) (h : X.length = X'.length) : gpatch (X ++ R1 ++ R2 ++ R3 ++ R4) i X' = X' ++ R1 ++ R2 ++ R3 ++ R4 := by
  have r := gpatch_block X X' [] (R1 ++ (R2 ++ (R3 ++ R4))) h
  rw [hi]
  simp only [List.append_assoc, List.nil_append, List.append_nil, List.length_nil] at r ⊢
  exact r
theorem gpw_0_5 (X X' R1 R2 R3 R4 R5 : va_W) (i : List Nat) (hi : i = List.range' 0 X.length) (h : X.length = X'.length) : gpatch (X ++ R1 ++ R2 ++ R3 ++ R4 ++ R5) i X' = X' ++ R1 ++ R2 ++ R3 ++ R4 ++ R5 := by
  have r := gpatch_block X X' [] (R1 ++ (R2 ++ (R3 ++ (R4 ++ R5)))) h
  rw [hi]
  simp only [List.append_assoc, List.nil_append, List.append_nil, List.length_nil] at r ⊢
  exact r
theorem gpw_1_0 (P X X' : va_W) (i : List Nat) (hi : i = List.range' P.length X.length) (h : X.length = X'.length) : gpatch (P ++ X) i X' = P ++ X' := by
  have r := gpatch_block X X' P [] h
  rw [hi]
  simp only [List.append_assoc, List.nil_append, List.append_nil, List.length_nil] at r ⊢
  exact r
theorem gpw_1_1 (P X X' R1 : va_W) (i : List Nat) (hi : i = List.range' P.length X.length) (h : X.length = X'.length) : gpatch (P ++ X ++ R1) i X' = P ++ X' ++ R1 := by
  have r := gpatch_block X X' P R1 h
  rw [hi]
  simp only [List.append_assoc, List.nil_append, List.append_nil, List.length_nil] at r ⊢
  exact r
theorem gpw_1_2 (P X X' R1 R2 : va_W) (i : List Nat) (hi : i = List.range' P.length X.length) (h : X.length = X'.length) : gpatch (P ++ X ++ R1 ++ R2) i X' = P ++ X' ++ R1 ++ R2 := by
  have r := gpatch_block X X' P (R1 ++ R2) h
  rw [hi]
  simp only [List.append_assoc, List.nil_append, List.append_nil, List.length_nil] at r ⊢
  exact r
theorem gpw_1_3 (P X X' R1 R2 R3 : va_W) (i : List Nat) (hi : i = List.range' P.length X.length) (h : X.length = X'.length) : gpatch (P ++ X ++ R1 ++ R2 ++ R3) i X' = P ++ X' ++ R1 ++ R2 ++ R3 := by
  have r := gpatch_block X X' P (R1 ++ (R2 ++ R3)) h
  rw [hi]
  simp only [List.append_assoc, List.nil_append, List.append_nil, List.length_nil] at r ⊢
  exact r
theorem gpw_1_4 (P X X' R1 R2 R3 R4 : va_W) (i : List Nat) (hi : i = List.range' P.length X.length) (h : X.length = X'.length) : gpatch (P ++ X ++ R1 ++ R2 ++ R3 ++ R4) i X' = P ++ X' ++ R1 ++ R2 ++ R3 ++ R4 := by
  have r := gpatch_block X X' P (R1 ++ (R2 ++ (R3 ++ R4))) h
  rw [hi]
  simp only [List.append_assoc, List.nil_append, List.append_nil, List.length_nil] at r ⊢
  exact r
theorem gpw_1_5 (P X X' R1 R2 R3 R4 R5 : va_W) (i : List Nat) (hi : i = List.range' P.length X.length) (h : X.length = X'.length) : gpatch (P ++ X ++ R1 ++ R2 ++ R3 ++ R4 ++ R5) i X' = P ++ X' ++ R1 ++ R2 ++ R3 ++ R4 ++ R5 := by
  have r := gpatch_block X X' P (R1 ++ (R2 ++ (R3 ++ (R4 ++ R5)))) h
  rw [hi]
  simp only [List.append_assoc, List.nil_append, List.append_nil, List.length_nil] at r ⊢
  exact r
