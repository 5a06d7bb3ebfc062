/-! The reference's state: a 0: scalars (0 waits 1 lost 2 saving 3 into 4 node 5 network 6 power 7 place 8 live 9 armed 10 wasSeven 11 sent 12 beats 13 watched 14 syncs 15 ago 16 outLength); a 1 value, a 2 boxId, a 3 boxLength, a 4 words, a 5 saved, a 6 way; .2.1 boxData, .2.2 outData; its six tables don't change behind its constructor -/
def mdKeyL : List Int32 := [1048832, 1052673, 1052929, 1054209, 1054464, 1441792, 1441793, 1441794, 1441795, 1572866, 1572867, 1572869, 1703936, 1703937, 1703938, 1703939, 6307840, 6308096, 6316032, 6317056, 6317312, 6318848, 6322688, 6323457, 6323458, 6323968, 6324480, 6324992, 6325504, 6356736]
def mdKey (j : Nat) : Int32 := mdKeyL.getD j 0
def mdBytesL : List Int32 := [1, 4, 4, 4, 2, 1, 4, 4, 4, 1, 2, 2, 1, 4, 4, 4, 2, 2, 1, 4, 4, 4, 4, 4, 4, 4, 4, 4, 4, 4]
def mdBytes (j : Nat) : Int32 := mdBytesL.getD j 0
def mdKindL : List Int32 := [0, 1, 1, 10, 10, 12, 12, 12, 12, 10, 10, 10, 12, 12, 12, 12, 2, 0, 10, 0, 11, 0, 2, 11, 11, 11, 10, 11, 11, 2]
def mdKind (j : Nat) : Int32 := mdKindL.getD j 0
def mdStartL : List Int32 := [0, 0, 0, 0, 0, 1, 1614807056, 0, 0, 255, 0, 0, 1, 1614872592, 0, 0, 0, 0, 1, 0, 100000, 0, 0, (-100000), 100000, 1000, 100, 10, 50, 0]
def mdStart (j : Nat) : Int32 := mdStartL.getD j 0
def mdLeastL : List Int32 := [(-2147483648), (-2147483648), (-2147483648), 0, 0, 0, (-2147483648), (-2147483648), (-2147483648), 0, 0, 0, 0, (-2147483648), (-2147483648), (-2147483648), 0, (-2147483648), 1, (-2147483648), 0, (-2147483648), (-100000), (-100000), (-100000), 1, 1, 1, 1, (-1000)]
def mdLeast (j : Nat) : Int32 := mdLeastL.getD j 0
def mdMostL : List Int32 := [2147483647, 2147483647, 2147483647, 8388607, 65535, 3, 2147483647, 2147483647, 2147483647, 255, 65535, 65535, 3, 2147483647, 2147483647, 2147483647, 65535, 2147483647, 3, 2147483647, 100000, 2147483647, 100000, 100000, 100000, 1000, 1000, 1000, 1000, 1000]
def mdMost (j : Nat) : Int32 := mdMostL.getD j 0
def rs_H (pf : Nat → va_E) (r : cs_S) (rest : ab_H) : ab_H :=
  pf 0 :: pf 1 :: pf 2 :: pf 3 :: pf 4 :: pf 5 :: pf 6 :: pf 7 :: pf 8 :: pf 9 :: pf 10 :: pf 11 :: pf 12 :: pf 13 :: pf 14 ::
  .inr (7, [.ref 24, .ref 25, .ref 26, .ref 27, .ref 28, .ref 29, .ref 30, .ref 31, .ref 32, .ref 33, .int (r.1 0 0), .int (r.1 0 1), .ref 34, .ref 35, .int (r.1 0 2), .int (r.1 0 3), .ref 36, .int (r.1 0 4), .int (r.1 0 5), .int (r.1 0 6), .int (r.1 0 7), .int (r.1 0 8), .int (r.1 0 9), .int (r.1 0 10), .int (r.1 0 11), .int (r.1 0 12), .int (r.1 0 13), .int (r.1 0 14), .int (r.1 0 15), .int (r.1 0 16), .long r.2.2]) ::
  .inl (0, 30, .inl mdKey) :: .inl (0, 30, .inl mdBytes) :: .inl (0, 30, .inl mdKind) :: .inl (0, 30, .inl mdStart) :: .inl (0, 30, .inl mdLeast) :: .inl (0, 30, .inl mdMost) ::
  .inl (0, 30, .inl (r.1 1)) :: .inl (0, 12, .inl (r.1 2)) :: .inl (0, 12, .inl (r.1 3)) :: .inl (1, 12, .inr (.inl r.2.1)) :: .inl (0, 44, .inl (r.1 4)) :: .inl (0, 22, .inl (r.1 5)) :: .inl (0, 1001, .inl (r.1 6)) :: rest
