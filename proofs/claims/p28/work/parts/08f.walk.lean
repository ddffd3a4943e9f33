def rmL_marksIn : Room := { frames := 8, cells := 0, slots := 0, locals := 184 }
set_option maxRecDepth 100000 in
set_option maxHeartbeats 4000000 in
theorem sL_marksIn_S0 {l : Launch} {p : Program} {e : Env} {s : State} {m : MethodId} {args : Array Value} {below : List Frame} {meth : Method} {c : Code} (G : tw_G) (sz : Nat) (hC : tw_C G p s m args meth c RL cL_marksIn 13 (some .int)) (a1 : Nat) (a2 : Int) (a3 : Int) (ga2 : tm_rg a2) (ga3 : tm_rg a3) : ∀ (k : Nat) (st : (Int × Int × Int × Int × tm_H) ⊕ (Int × Int × Int × Int × Int × Int × tm_H) ⊕ (Int × Int × Int × Int × Int × Int × tm_H) ⊕ (Int × Int × Int × Int × Int × Int × Int × tm_H) ⊕ (Int × Int × Int × Int × Int × Int × Int × tm_H) ⊕ (Int × Int × Int × Int × Int × Int × Int × Int × tm_H) ⊕ (Int × Int × Int × Int × Int × Int × Int × Int × tm_H) ⊕ (Int × Int × Int × Int × Int × Int × Int × Int × Int × tm_H) ⊕ (Int × Int × Int × Int × Int × Int × Int × Int × tm_H) ⊕ (Int × Int × Int × Int × Int × Int × Int × Int × Int × tm_H) ⊕ (Int × Int × Int × Int × Int × Int × Int × Int × Int × Int × tm_H) ⊕ (Int × Int × Int × Int × Int × Int × Int × Int × tm_H) ⊕ (Int × Int × Int × Int × Int × Int × Int × Int × tm_H) ⊕ (Int × Int × Int × Int × Int × Int × Int × Int × Int × tm_H) ⊕ (Int × Int × Int × Int × Int × Int × Int × Int × Int × Int × tm_H) ⊕ (Int × Int × Int × Int × Int × Int × Int × Int × Int × tm_H) ⊕ (Int × Int × Int × Int × Int × Int × Int × Int × Int × tm_H) ⊕ (Int × Int × Int × Int × Int × Int × Int × Int × Int × tm_H) ⊕ (Int × Int × Int × Int × Int × Int × Int × Int × Int × Int × tm_H) ⊕ (Int × Int × Int × Int × Int × Int × Int × Int × Int × tm_H) ⊕ (Int × Int × Int × Int × Int × Int × Int × tm_H) ⊕ (Int × Int × Int × Int × Int × Int × tm_H)) (out : Int × tm_H), tm_wit (fL_marksIn_S0 a1 a2 a3) k st = some out → match st with
    | .inl ((x3, x4, x5, x6, h)) => ∀ (H : Heap) (locs : List Loc) (ls : Array Slot), tm_rg x3 → tm_rg x4 → tm_rg x5 → tm_rg x6 → tw_Rel G sz h H → tw_L G locs → lv_has ls 13 [(0, .ref a1), (1, .int (tw_I a2)), (2, .int (tw_I a3)), (3, .int (tw_I x3)), (4, .int (tw_I x4)), (5, .int (tw_I x5)), (6, .int (tw_I x6))] → W p l e rmL_marksIn s m args below meth c H locs 0 0 (MQ below (tw_Qi G sz out.1 out.2) args s 0 0 (tw_F G)) (F0 m 15 ls [])
    | .inr (.inl ((x3, x4, x5, x6, x7, s0, h))) => ∀ (H : Heap) (locs : List Loc) (ls : Array Slot), tm_rg x3 → tm_rg x4 → tm_rg x5 → tm_rg x6 → tm_rg x7 → tm_rg s0 → tw_Rel G sz h H → tw_L G locs → lv_has ls 13 [(0, .ref a1), (1, .int (tw_I a2)), (2, .int (tw_I a3)), (3, .int (tw_I x3)), (4, .int (tw_I x4)), (5, .int (tw_I x5)), (6, .int (tw_I x6)), (7, .int (tw_I x7))] → W p l e rmL_marksIn s m args below meth c H locs 0 0 (MQ below (tw_Qi G sz out.1 out.2) args s 0 0 (tw_F G)) (F0 m 49 ls [.int (tw_I s0)])
    | .inr (.inr (.inl ((x3, x4, x5, x6, x7, x8, h)))) => ∀ (H : Heap) (locs : List Loc) (ls : Array Slot), tm_rg x3 → tm_rg x4 → tm_rg x5 → tm_rg x6 → tm_rg x7 → tm_rg x8 → tw_Rel G sz h H → tw_L G locs → lv_has ls 13 [(0, .ref a1), (1, .int (tw_I a2)), (2, .int (tw_I a3)), (3, .int (tw_I x3)), (4, .int (tw_I x4)), (5, .int (tw_I x5)), (6, .int (tw_I x6)), (7, .int (tw_I x7)), (8, .int (tw_I x8))] → W p l e rmL_marksIn s m args below meth c H locs 0 0 (MQ below (tw_Qi G sz out.1 out.2) args s 0 0 (tw_F G)) (F0 m 72 ls [])
    | .inr (.inr (.inr (.inl ((x3, x4, x5, x6, x7, x8, s0, h))))) => ∀ (H : Heap) (locs : List Loc) (ls : Array Slot), tm_rg x3 → tm_rg x4 → tm_rg x5 → tm_rg x6 → tm_rg x7 → tm_rg x8 → tm_rg s0 → tw_Rel G sz h H → tw_L G locs → lv_has ls 13 [(0, .ref a1), (1, .int (tw_I a2)), (2, .int (tw_I a3)), (3, .int (tw_I x3)), (4, .int (tw_I x4)), (5, .int (tw_I x5)), (6, .int (tw_I x6)), (7, .int (tw_I x7)), (8, .int (tw_I x8))] → W p l e rmL_marksIn s m args below meth c H locs 0 0 (MQ below (tw_Qi G sz out.1 out.2) args s 0 0 (tw_F G)) (F0 m 73 ls [.int (tw_I s0)])
    | .inr (.inr (.inr (.inr (.inl ((x3, x4, x5, x6, x7, x8, x9, h)))))) => ∀ (H : Heap) (locs : List Loc) (ls : Array Slot), tm_rg x3 → tm_rg x4 → tm_rg x5 → tm_rg x6 → tm_rg x7 → tm_rg x8 → tm_rg x9 → tw_Rel G sz h H → tw_L G locs → lv_has ls 13 [(0, .ref a1), (1, .int (tw_I a2)), (2, .int (tw_I a3)), (3, .int (tw_I x3)), (4, .int (tw_I x4)), (5, .int (tw_I x5)), (6, .int (tw_I x6)), (7, .int (tw_I x7)), (8, .int (tw_I x8)), (9, .int (tw_I x9))] → W p l e rmL_marksIn s m args below meth c H locs 0 0 (MQ below (tw_Qi G sz out.1 out.2) args s 0 0 (tw_F G)) (F0 m 94 ls [])
    | .inr (.inr (.inr (.inr (.inr (.inl ((x3, x4, x5, x6, x7, x8, x9, s0, h))))))) => ∀ (H : Heap) (locs : List Loc) (ls : Array Slot), tm_rg x3 → tm_rg x4 → tm_rg x5 → tm_rg x6 → tm_rg x7 → tm_rg x8 → tm_rg x9 → tm_rg s0 → tw_Rel G sz h H → tw_L G locs → lv_has ls 13 [(0, .ref a1), (1, .int (tw_I a2)), (2, .int (tw_I a3)), (3, .int (tw_I x3)), (4, .int (tw_I x4)), (5, .int (tw_I x5)), (6, .int (tw_I x6)), (7, .int (tw_I x7)), (8, .int (tw_I x8)), (9, .int (tw_I x9))] → W p l e rmL_marksIn s m args below meth c H locs 0 0 (MQ below (tw_Qi G sz out.1 out.2) args s 0 0 (tw_F G)) (F0 m 95 ls [.int (tw_I s0)])
    | .inr (.inr (.inr (.inr (.inr (.inr (.inl ((x3, x4, x5, x6, x7, x8, x9, x10, h)))))))) => ∀ (H : Heap) (locs : List Loc) (ls : Array Slot), tm_rg x3 → tm_rg x4 → tm_rg x5 → tm_rg x6 → tm_rg x7 → tm_rg x8 → tm_rg x9 → tm_rg x10 → tw_Rel G sz h H → tw_L G locs → lv_has ls 13 [(0, .ref a1), (1, .int (tw_I a2)), (2, .int (tw_I a3)), (3, .int (tw_I x3)), (4, .int (tw_I x4)), (5, .int (tw_I x5)), (6, .int (tw_I x6)), (7, .int (tw_I x7)), (8, .int (tw_I x8)), (9, .int (tw_I x9)), (10, .int (tw_I x10))] → W p l e rmL_marksIn s m args below meth c H locs 0 0 (MQ below (tw_Qi G sz out.1 out.2) args s 0 0 (tw_F G)) (F0 m 132 ls [])
    | .inr (.inr (.inr (.inr (.inr (.inr (.inr (.inl ((x3, x4, x5, x6, x7, x8, x9, x10, s0, h))))))))) => ∀ (H : Heap) (locs : List Loc) (ls : Array Slot), tm_rg x3 → tm_rg x4 → tm_rg x5 → tm_rg x6 → tm_rg x7 → tm_rg x8 → tm_rg x9 → tm_rg x10 → tm_rg s0 → tw_Rel G sz h H → tw_L G locs → lv_has ls 13 [(0, .ref a1), (1, .int (tw_I a2)), (2, .int (tw_I a3)), (3, .int (tw_I x3)), (4, .int (tw_I x4)), (5, .int (tw_I x5)), (6, .int (tw_I x6)), (7, .int (tw_I x7)), (8, .int (tw_I x8)), (9, .int (tw_I x9)), (10, .int (tw_I x10))] → W p l e rmL_marksIn s m args below meth c H locs 0 0 (MQ below (tw_Qi G sz out.1 out.2) args s 0 0 (tw_F G)) (F0 m 179 ls [.int (tw_I s0)])
    | .inr (.inr (.inr (.inr (.inr (.inr (.inr (.inr (.inl ((x3, x4, x5, x6, x7, x8, x9, x10, h)))))))))) => ∀ (H : Heap) (locs : List Loc) (ls : Array Slot), tm_rg x3 → tm_rg x4 → tm_rg x5 → tm_rg x6 → tm_rg x7 → tm_rg x8 → tm_rg x9 → tm_rg x10 → tw_Rel G sz h H → tw_L G locs → lv_has ls 13 [(0, .ref a1), (1, .int (tw_I a2)), (2, .int (tw_I a3)), (3, .int (tw_I x3)), (4, .int (tw_I x4)), (5, .int (tw_I x5)), (6, .int (tw_I x6)), (7, .int (tw_I x7)), (8, .int (tw_I x8)), (9, .int (tw_I x9)), (10, .int (tw_I x10))] → W p l e rmL_marksIn s m args below meth c H locs 0 0 (MQ below (tw_Qi G sz out.1 out.2) args s 0 0 (tw_F G)) (F0 m 188 ls [])
    | .inr (.inr (.inr (.inr (.inr (.inr (.inr (.inr (.inr (.inl ((x3, x4, x5, x6, x7, x8, x9, x10, s0, h))))))))))) => ∀ (H : Heap) (locs : List Loc) (ls : Array Slot), tm_rg x3 → tm_rg x4 → tm_rg x5 → tm_rg x6 → tm_rg x7 → tm_rg x8 → tm_rg x9 → tm_rg x10 → tm_rg s0 → tw_Rel G sz h H → tw_L G locs → lv_has ls 13 [(0, .ref a1), (1, .int (tw_I a2)), (2, .int (tw_I a3)), (3, .int (tw_I x3)), (4, .int (tw_I x4)), (5, .int (tw_I x5)), (6, .int (tw_I x6)), (7, .int (tw_I x7)), (8, .int (tw_I x8)), (9, .int (tw_I x9)), (10, .int (tw_I x10))] → W p l e rmL_marksIn s m args below meth c H locs 0 0 (MQ below (tw_Qi G sz out.1 out.2) args s 0 0 (tw_F G)) (F0 m 189 ls [.int (tw_I s0)])
    | .inr (.inr (.inr (.inr (.inr (.inr (.inr (.inr (.inr (.inr (.inl ((x3, x4, x5, x6, x7, x8, x9, x10, s0, s1, h)))))))))))) => ∀ (H : Heap) (locs : List Loc) (ls : Array Slot), tm_rg x3 → tm_rg x4 → tm_rg x5 → tm_rg x6 → tm_rg x7 → tm_rg x8 → tm_rg x9 → tm_rg x10 → tm_rg s0 → tm_rg s1 → tw_Rel G sz h H → tw_L G locs → lv_has ls 13 [(0, .ref a1), (1, .int (tw_I a2)), (2, .int (tw_I a3)), (3, .int (tw_I x3)), (4, .int (tw_I x4)), (5, .int (tw_I x5)), (6, .int (tw_I x6)), (7, .int (tw_I x7)), (8, .int (tw_I x8)), (9, .int (tw_I x9)), (10, .int (tw_I x10))] → W p l e rmL_marksIn s m args below meth c H locs 0 0 (MQ below (tw_Qi G sz out.1 out.2) args s 0 0 (tw_F G)) (F0 m 214 ls [.int (tw_I s1), .int (tw_I s0)])
    | .inr (.inr (.inr (.inr (.inr (.inr (.inr (.inr (.inr (.inr (.inr (.inl ((x3, x4, x5, x6, x7, x8, x9, x10, h))))))))))))) => ∀ (H : Heap) (locs : List Loc) (ls : Array Slot), tm_rg x3 → tm_rg x4 → tm_rg x5 → tm_rg x6 → tm_rg x7 → tm_rg x8 → tm_rg x9 → tm_rg x10 → tw_Rel G sz h H → tw_L G locs → lv_has ls 13 [(0, .ref a1), (1, .int (tw_I a2)), (2, .int (tw_I a3)), (3, .int (tw_I x3)), (4, .int (tw_I x4)), (5, .int (tw_I x5)), (6, .int (tw_I x6)), (7, .int (tw_I x7)), (8, .int (tw_I x8)), (9, .int (tw_I x9)), (10, .int (tw_I x10))] → W p l e rmL_marksIn s m args below meth c H locs 0 0 (MQ below (tw_Qi G sz out.1 out.2) args s 0 0 (tw_F G)) (F0 m 269 ls [])
    | .inr (.inr (.inr (.inr (.inr (.inr (.inr (.inr (.inr (.inr (.inr (.inr (.inl ((x3, x4, x5, x6, x7, x8, x9, x10, h)))))))))))))) => ∀ (H : Heap) (locs : List Loc) (ls : Array Slot), tm_rg x3 → tm_rg x4 → tm_rg x5 → tm_rg x6 → tm_rg x7 → tm_rg x8 → tm_rg x9 → tm_rg x10 → tw_Rel G sz h H → tw_L G locs → lv_has ls 13 [(0, .ref a1), (1, .int (tw_I a2)), (2, .int (tw_I a3)), (3, .int (tw_I x3)), (4, .int (tw_I x4)), (5, .int (tw_I x5)), (6, .int (tw_I x6)), (7, .int (tw_I x7)), (8, .int (tw_I x8)), (9, .int (tw_I x9)), (10, .int (tw_I x10))] → W p l e rmL_marksIn s m args below meth c H locs 0 0 (MQ below (tw_Qi G sz out.1 out.2) args s 0 0 (tw_F G)) (F0 m 273 ls [])
    | .inr (.inr (.inr (.inr (.inr (.inr (.inr (.inr (.inr (.inr (.inr (.inr (.inr (.inl ((x3, x4, x5, x6, x7, x8, x9, x10, s0, h))))))))))))))) => ∀ (H : Heap) (locs : List Loc) (ls : Array Slot), tm_rg x3 → tm_rg x4 → tm_rg x5 → tm_rg x6 → tm_rg x7 → tm_rg x8 → tm_rg x9 → tm_rg x10 → tm_rg s0 → tw_Rel G sz h H → tw_L G locs → lv_has ls 13 [(0, .ref a1), (1, .int (tw_I a2)), (2, .int (tw_I a3)), (3, .int (tw_I x3)), (4, .int (tw_I x4)), (5, .int (tw_I x5)), (6, .int (tw_I x6)), (7, .int (tw_I x7)), (8, .int (tw_I x8)), (9, .int (tw_I x9)), (10, .int (tw_I x10))] → W p l e rmL_marksIn s m args below meth c H locs 0 0 (MQ below (tw_Qi G sz out.1 out.2) args s 0 0 (tw_F G)) (F0 m 274 ls [.int (tw_I s0)])
    | .inr (.inr (.inr (.inr (.inr (.inr (.inr (.inr (.inr (.inr (.inr (.inr (.inr (.inr (.inl ((x3, x4, x5, x6, x7, x8, x9, x10, x11, x12, h)))))))))))))))) => ∀ (H : Heap) (locs : List Loc) (ls : Array Slot), tm_rg x3 → tm_rg x4 → tm_rg x5 → tm_rg x6 → tm_rg x7 → tm_rg x8 → tm_rg x9 → tm_rg x10 → tm_rg x11 → tm_rg x12 → tw_Rel G sz h H → tw_L G locs → lv_has ls 13 [(0, .ref a1), (1, .int (tw_I a2)), (2, .int (tw_I a3)), (3, .int (tw_I x3)), (4, .int (tw_I x4)), (5, .int (tw_I x5)), (6, .int (tw_I x6)), (7, .int (tw_I x7)), (8, .int (tw_I x8)), (9, .int (tw_I x9)), (10, .int (tw_I x10)), (11, .int (tw_I x11)), (12, .int (tw_I x12))] → W p l e rmL_marksIn s m args below meth c H locs 0 0 (MQ below (tw_Qi G sz out.1 out.2) args s 0 0 (tw_F G)) (F0 m 279 ls [])
    | .inr (.inr (.inr (.inr (.inr (.inr (.inr (.inr (.inr (.inr (.inr (.inr (.inr (.inr (.inr (.inl ((x3, x4, x5, x6, x7, x8, x9, x10, x12, h))))))))))))))))) => ∀ (H : Heap) (locs : List Loc) (ls : Array Slot), tm_rg x3 → tm_rg x4 → tm_rg x5 → tm_rg x6 → tm_rg x7 → tm_rg x8 → tm_rg x9 → tm_rg x10 → tm_rg x12 → tw_Rel G sz h H → tw_L G locs → lv_has ls 13 [(0, .ref a1), (1, .int (tw_I a2)), (2, .int (tw_I a3)), (3, .int (tw_I x3)), (4, .int (tw_I x4)), (5, .int (tw_I x5)), (6, .int (tw_I x6)), (7, .int (tw_I x7)), (8, .int (tw_I x8)), (9, .int (tw_I x9)), (10, .int (tw_I x10)), (12, .int (tw_I x12))] → W p l e rmL_marksIn s m args below meth c H locs 0 0 (MQ below (tw_Qi G sz out.1 out.2) args s 0 0 (tw_F G)) (F0 m 349 ls [])
    | .inr (.inr (.inr (.inr (.inr (.inr (.inr (.inr (.inr (.inr (.inr (.inr (.inr (.inr (.inr (.inr (.inl ((x3, x4, x5, x6, x7, x8, x9, x10, x12, h)))))))))))))))))) => ∀ (H : Heap) (locs : List Loc) (ls : Array Slot), tm_rg x3 → tm_rg x4 → tm_rg x5 → tm_rg x6 → tm_rg x7 → tm_rg x8 → tm_rg x9 → tm_rg x10 → tm_rg x12 → tw_Rel G sz h H → tw_L G locs → lv_has ls 13 [(0, .ref a1), (1, .int (tw_I a2)), (2, .int (tw_I a3)), (3, .int (tw_I x3)), (4, .int (tw_I x4)), (5, .int (tw_I x5)), (6, .int (tw_I x6)), (7, .int (tw_I x7)), (8, .int (tw_I x8)), (9, .int (tw_I x9)), (10, .int (tw_I x10)), (12, .int (tw_I x12))] → W p l e rmL_marksIn s m args below meth c H locs 0 0 (MQ below (tw_Qi G sz out.1 out.2) args s 0 0 (tw_F G)) (F0 m 418 ls [])
    | .inr (.inr (.inr (.inr (.inr (.inr (.inr (.inr (.inr (.inr (.inr (.inr (.inr (.inr (.inr (.inr (.inr (.inl ((x3, x4, x5, x6, x7, x8, x9, x10, x12, h))))))))))))))))))) => ∀ (H : Heap) (locs : List Loc) (ls : Array Slot), tm_rg x3 → tm_rg x4 → tm_rg x5 → tm_rg x6 → tm_rg x7 → tm_rg x8 → tm_rg x9 → tm_rg x10 → tm_rg x12 → tw_Rel G sz h H → tw_L G locs → lv_has ls 13 [(0, .ref a1), (1, .int (tw_I a2)), (2, .int (tw_I a3)), (3, .int (tw_I x3)), (4, .int (tw_I x4)), (5, .int (tw_I x5)), (6, .int (tw_I x6)), (7, .int (tw_I x7)), (8, .int (tw_I x8)), (9, .int (tw_I x9)), (10, .int (tw_I x10)), (12, .int (tw_I x12))] → W p l e rmL_marksIn s m args below meth c H locs 0 0 (MQ below (tw_Qi G sz out.1 out.2) args s 0 0 (tw_F G)) (F0 m 422 ls [])
    | .inr (.inr (.inr (.inr (.inr (.inr (.inr (.inr (.inr (.inr (.inr (.inr (.inr (.inr (.inr (.inr (.inr (.inr (.inl ((x3, x4, x5, x6, x7, x8, x9, x10, x12, s0, h)))))))))))))))))))) => ∀ (H : Heap) (locs : List Loc) (ls : Array Slot), tm_rg x3 → tm_rg x4 → tm_rg x5 → tm_rg x6 → tm_rg x7 → tm_rg x8 → tm_rg x9 → tm_rg x10 → tm_rg x12 → tm_rg s0 → tw_Rel G sz h H → tw_L G locs → lv_has ls 13 [(0, .ref a1), (1, .int (tw_I a2)), (2, .int (tw_I a3)), (3, .int (tw_I x3)), (4, .int (tw_I x4)), (5, .int (tw_I x5)), (6, .int (tw_I x6)), (7, .int (tw_I x7)), (8, .int (tw_I x8)), (9, .int (tw_I x9)), (10, .int (tw_I x10)), (12, .int (tw_I x12))] → W p l e rmL_marksIn s m args below meth c H locs 0 0 (MQ below (tw_Qi G sz out.1 out.2) args s 0 0 (tw_F G)) (F0 m 423 ls [.int (tw_I s0)])
    | .inr (.inr (.inr (.inr (.inr (.inr (.inr (.inr (.inr (.inr (.inr (.inr (.inr (.inr (.inr (.inr (.inr (.inr (.inr (.inl ((x3, x4, x5, x6, x7, x8, x9, x10, x11, h))))))))))))))))))))) => ∀ (H : Heap) (locs : List Loc) (ls : Array Slot), tm_rg x3 → tm_rg x4 → tm_rg x5 → tm_rg x6 → tm_rg x7 → tm_rg x8 → tm_rg x9 → tm_rg x10 → tm_rg x11 → tw_Rel G sz h H → tw_L G locs → lv_has ls 13 [(0, .ref a1), (1, .int (tw_I a2)), (2, .int (tw_I a3)), (3, .int (tw_I x3)), (4, .int (tw_I x4)), (5, .int (tw_I x5)), (6, .int (tw_I x6)), (7, .int (tw_I x7)), (8, .int (tw_I x8)), (9, .int (tw_I x9)), (10, .int (tw_I x10)), (11, .int (tw_I x11))] → W p l e rmL_marksIn s m args below meth c H locs 0 0 (MQ below (tw_Qi G sz out.1 out.2) args s 0 0 (tw_F G)) (F0 m 431 ls [])
    | .inr (.inr (.inr (.inr (.inr (.inr (.inr (.inr (.inr (.inr (.inr (.inr (.inr (.inr (.inr (.inr (.inr (.inr (.inr (.inr (.inl ((x3, x4, x5, x8, x10, s0, s1, h)))))))))))))))))))))) => ∀ (H : Heap) (locs : List Loc) (ls : Array Slot), tm_rg x3 → tm_rg x4 → tm_rg x5 → tm_rg x8 → tm_rg x10 → tm_rg s0 → tm_rg s1 → tw_Rel G sz h H → tw_L G locs → lv_has ls 13 [(0, .ref a1), (1, .int (tw_I a2)), (2, .int (tw_I a3)), (3, .int (tw_I x3)), (4, .int (tw_I x4)), (5, .int (tw_I x5)), (8, .int (tw_I x8)), (10, .int (tw_I x10))] → W p l e rmL_marksIn s m args below meth c H locs 0 0 (MQ below (tw_Qi G sz out.1 out.2) args s 0 0 (tw_F G)) (F0 m 453 ls [.int (tw_I s1), .int (tw_I s0)])
    | .inr (.inr (.inr (.inr (.inr (.inr (.inr (.inr (.inr (.inr (.inr (.inr (.inr (.inr (.inr (.inr (.inr (.inr (.inr (.inr (.inr ((x3, x4, x6, x8, s0, s1, h)))))))))))))))))))))) => ∀ (H : Heap) (locs : List Loc) (ls : Array Slot), tm_rg x3 → tm_rg x4 → tm_rg x6 → tm_rg x8 → tm_rg s0 → tm_rg s1 → tw_Rel G sz h H → tw_L G locs → lv_has ls 13 [(0, .ref a1), (1, .int (tw_I a2)), (2, .int (tw_I a3)), (3, .int (tw_I x3)), (4, .int (tw_I x4)), (6, .int (tw_I x6)), (8, .int (tw_I x8))] → W p l e rmL_marksIn s m args below meth c H locs 0 0 (MQ below (tw_Qi G sz out.1 out.2) args s 0 0 (tw_F G)) (F0 m 468 ls [.int (tw_I s1), .int (tw_I s0)]) := by
  intro k
  induction k with
  | zero =>
    intro st out hk
    exact absurd hk (by unfold tm_wit; exact fun z => by cases z)
  | succ k ih =>
    intro st out hk
    obtain ⟨X, hk, hf⟩ := tm_wit_succ hk
    obtain ⟨x3, x4, x5, x6, h⟩ | ⟨x3, x4, x5, x6, x7, s0, h⟩ | ⟨x3, x4, x5, x6, x7, x8, h⟩ | ⟨x3, x4, x5, x6, x7, x8, s0, h⟩ | ⟨x3, x4, x5, x6, x7, x8, x9, h⟩ | ⟨x3, x4, x5, x6, x7, x8, x9, s0, h⟩ | ⟨x3, x4, x5, x6, x7, x8, x9, x10, h⟩ | ⟨x3, x4, x5, x6, x7, x8, x9, x10, s0, h⟩ | ⟨x3, x4, x5, x6, x7, x8, x9, x10, h⟩ | ⟨x3, x4, x5, x6, x7, x8, x9, x10, s0, h⟩ | ⟨x3, x4, x5, x6, x7, x8, x9, x10, s0, s1, h⟩ | ⟨x3, x4, x5, x6, x7, x8, x9, x10, h⟩ | ⟨x3, x4, x5, x6, x7, x8, x9, x10, h⟩ | ⟨x3, x4, x5, x6, x7, x8, x9, x10, s0, h⟩ | ⟨x3, x4, x5, x6, x7, x8, x9, x10, x11, x12, h⟩ | ⟨x3, x4, x5, x6, x7, x8, x9, x10, x12, h⟩ | ⟨x3, x4, x5, x6, x7, x8, x9, x10, x12, h⟩ | ⟨x3, x4, x5, x6, x7, x8, x9, x10, x12, h⟩ | ⟨x3, x4, x5, x6, x7, x8, x9, x10, x12, s0, h⟩ | ⟨x3, x4, x5, x6, x7, x8, x9, x10, x11, h⟩ | ⟨x3, x4, x5, x8, x10, s0, s1, h⟩ | ⟨x3, x4, x6, x8, s0, s1, h⟩ := st
    · intro H locs ls gx3 gx4 gx5 gx6 hR hL hl
      dsimp only [fL_marksIn_S0] at hk
      refine lv_iload hC.1 hC.2.1 dL_marksIn_15 (lv_at hl 4 rfl) ?_
      refine lv_iload_n hC.1 hC.2.1 dL_marksIn_17 rfl (lv_at hl 3 rfl) ?_
      refine tw_cge (tgt := 481) hC hk gx4 gx3 dL_marksIn_18 (by decide) (fun _ hk => ?_) (fun _ hk => ?_)
      · refine lv_aload_n hC.1 hC.2.1 dL_marksIn_21 rfl (lv_at hl 0 rfl) ?_
        refine lv_iload_n hC.1 hC.2.1 dL_marksIn_22 rfl (lv_at hl 1 rfl) ?_
        refine lv_iload hC.1 hC.2.1 dL_marksIn_23 (lv_at hl 4 rfl) ?_
        refine lv_iconst (v := tw_I 1) hC.1 hC.2.1 dL_marksIn_25 rfl ?_
        refine kX8_place hC hR hL hk ga2 gx4 ((tw_rgL rfl)) mlL_19 ⟨by decide, by decide⟩ hl.1 (Nat.le_of_ble_eq_true rfl) ⟨Nat.zero_le _, Nat.zero_le _⟩ dL_marksIn_26 (fun v2 h2 H locs hR hL gv2 hk => ?_)
        refine lv_istore (lv' := [(7, .int (tw_I v2)), (0, .ref a1), (1, .int (tw_I a2)), (2, .int (tw_I a3)), (3, .int (tw_I x3)), (4, .int (tw_I x4)), (5, .int (tw_I x5)), (6, .int (tw_I x6))]) hC.1 hC.2.1 dL_marksIn_29 hl (by decide) rfl (fun ls hl => ?_)
        refine lv_iload hC.1 hC.2.1 dL_marksIn_31 (lv_at hl 0 rfl) ?_
        refine lv_bipush (v := tw_I (-99)) hC.1 hC.2.1 dL_marksIn_33 (by decide) ?_
        refine tw_cne (tgt := 42) hC hk gv2 ((tw_rgL rfl)) dL_marksIn_35 (by decide) (fun _ hk => ?_) (fun _ hk => ?_)
        · refine lv_iconst (v := tw_I 1) hC.1 hC.2.1 dL_marksIn_38 rfl ?_
          refine lv_goto (tgt := 49) hC.1 hC.2.1 dL_marksIn_39 (by decide) ?_
          cases hk
          exact ih _ out hf H locs _ gx3 gx4 gx5 gx6 gv2 ((tw_rgL rfl)) hR hL (lv_sub hl [1, 2, 3, 4, 5, 6, 7, 0] rfl)
        · refine lv_aload_n hC.1 hC.2.1 dL_marksIn_42 rfl (lv_at hl 1 rfl) ?_
          refine lv_iload hC.1 hC.2.1 dL_marksIn_43 (lv_at hl 0 rfl) ?_
          refine lv_iconst (v := tw_I 0) hC.1 hC.2.1 dL_marksIn_45 rfl ?_
          refine kX8_term hC hR hL hk gv2 ((tw_rgL rfl)) mlL_23 ⟨by decide, by decide⟩ hl.1 (Nat.le_of_ble_eq_true rfl) ⟨Nat.zero_le _, Nat.zero_le _⟩ dL_marksIn_46 (fun v3 h3 H locs hR hL gv3 hk => ?_)
          cases hk
          exact ih _ out hf H locs _ gx3 gx4 gx5 gx6 gv2 gv3 hR hL (lv_sub hl [1, 2, 3, 4, 5, 6, 7, 0] rfl)
      · refine lv_iload hC.1 hC.2.1 dL_marksIn_481 (lv_at hl 5 rfl) ?_
        refine lv_iload_n hC.1 hC.2.1 dL_marksIn_483 rfl (lv_at hl 2 rfl) ?_
        refine tw_isub hC dL_marksIn_484 ?_
        cases hk
        cases hf
        exact tw_iret hC hR hL ((tm_wr_rg _)) rfl rfl dL_marksIn_485
    · intro H locs ls gx3 gx4 gx5 gx6 gx7 gs0 hR hL hl
      dsimp only [fL_marksIn_S0] at hk
      refine lv_istore (lv' := [(8, .int (tw_I s0)), (0, .ref a1), (1, .int (tw_I a2)), (2, .int (tw_I a3)), (3, .int (tw_I x3)), (4, .int (tw_I x4)), (5, .int (tw_I x5)), (6, .int (tw_I x6)), (7, .int (tw_I x7))]) hC.1 hC.2.1 dL_marksIn_49 hl (by decide) rfl (fun ls hl => ?_)
      refine lv_iload hC.1 hC.2.1 dL_marksIn_51 (lv_at hl 8 rfl) ?_
      refine lv_bipush (v := tw_I (-99)) hC.1 hC.2.1 dL_marksIn_53 (by decide) ?_
      refine tw_ceq (tgt := 72) hC hk gx7 ((tw_rgL rfl)) dL_marksIn_55 (by decide) (fun _ hk => ?_) (fun _ hk => ?_)
      · cases hk
        exact ih _ out hf H locs _ gx3 gx4 gx5 gx6 gx7 gs0 hR hL (lv_sub hl [1, 2, 3, 4, 5, 6, 7, 8, 0] rfl)
      · refine lv_iload hC.1 hC.2.1 dL_marksIn_58 (lv_at hl 7 rfl) ?_
        refine lv_iload hC.1 hC.2.1 dL_marksIn_60 (lv_at hl 8 rfl) ?_
        refine tw_ishr hC dL_marksIn_62 ?_
        refine lv_iconst (v := tw_I 1) hC.1 hC.2.1 dL_marksIn_63 rfl ?_
        refine tw_iand hC dL_marksIn_64 ?_
        refine tw_zne (tgt := 72) hC hk ((tm_and_rg _ _)) dL_marksIn_65 (by decide) (fun _ hk => ?_) (fun _ hk => ?_)
        · refine lv_iconst (v := tw_I 1) hC.1 hC.2.1 dL_marksIn_68 rfl ?_
          refine lv_goto (tgt := 73) hC.1 hC.2.1 dL_marksIn_69 (by decide) ?_
          cases hk
          exact ih _ out hf H locs _ gx3 gx4 gx5 gx6 gx7 gs0 ((tw_rgL rfl)) hR hL (lv_sub hl [1, 2, 3, 4, 5, 6, 7, 8, 0] rfl)
        · cases hk
          exact ih _ out hf H locs _ gx3 gx4 gx5 gx6 gx7 gs0 hR hL (lv_sub hl [1, 2, 3, 4, 5, 6, 7, 8, 0] rfl)
    · intro H locs ls gx3 gx4 gx5 gx6 gx7 gx8 hR hL hl
      dsimp only [fL_marksIn_S0] at hk
      refine lv_iconst (v := tw_I 0) hC.1 hC.2.1 dL_marksIn_72 rfl ?_
      cases hk
      exact ih _ out hf H locs _ gx3 gx4 gx5 gx6 gx7 gx8 ((tw_rgL rfl)) hR hL (lv_sub hl [0, 1, 2, 3, 4, 5, 6, 7, 8] rfl)
    · intro H locs ls gx3 gx4 gx5 gx6 gx7 gx8 gs0 hR hL hl
      dsimp only [fL_marksIn_S0] at hk
      refine lv_istore (lv' := [(9, .int (tw_I s0)), (0, .ref a1), (1, .int (tw_I a2)), (2, .int (tw_I a3)), (3, .int (tw_I x3)), (4, .int (tw_I x4)), (5, .int (tw_I x5)), (6, .int (tw_I x6)), (7, .int (tw_I x7)), (8, .int (tw_I x8))]) hC.1 hC.2.1 dL_marksIn_73 hl (by decide) rfl (fun ls hl => ?_)
      refine lv_iload hC.1 hC.2.1 dL_marksIn_75 (lv_at hl 0 rfl) ?_
      refine tw_zeq (tgt := 94) hC hk gs0 dL_marksIn_77 (by decide) (fun _ hk => ?_) (fun _ hk => ?_)
      · cases hk
        exact ih _ out hf H locs _ gx3 gx4 gx5 gx6 gx7 gx8 gs0 hR hL (lv_sub hl [1, 2, 3, 4, 5, 6, 7, 8, 9, 0] rfl)
      · refine lv_aload_n hC.1 hC.2.1 dL_marksIn_80 rfl (lv_at hl 1 rfl) ?_
        refine lv_iload hC.1 hC.2.1 dL_marksIn_81 (lv_at hl 8 rfl) ?_
        refine lv_iconst (v := tw_I 5) hC.1 hC.2.1 dL_marksIn_83 rfl ?_
        refine kX8_term hC hR hL hk gx7 ((tw_rgL rfl)) mlL_23 ⟨by decide, by decide⟩ hl.1 (Nat.le_of_ble_eq_true rfl) ⟨Nat.zero_le _, Nat.zero_le _⟩ dL_marksIn_84 (fun v4 h4 H locs hR hL gv4 hk => ?_)
        refine tw_zne (tgt := 94) hC hk gv4 dL_marksIn_87 (by decide) (fun _ hk => ?_) (fun _ hk => ?_)
        · refine lv_iconst (v := tw_I 1) hC.1 hC.2.1 dL_marksIn_90 rfl ?_
          refine lv_goto (tgt := 95) hC.1 hC.2.1 dL_marksIn_91 (by decide) ?_
          cases hk
          exact ih _ out hf H locs _ gx3 gx4 gx5 gx6 gx7 gx8 gs0 ((tw_rgL rfl)) hR hL (lv_sub hl [1, 2, 3, 4, 5, 6, 7, 8, 9, 0] rfl)
        · cases hk
          exact ih _ out hf H locs _ gx3 gx4 gx5 gx6 gx7 gx8 gs0 hR hL (lv_sub hl [1, 2, 3, 4, 5, 6, 7, 8, 9, 0] rfl)
    · intro H locs ls gx3 gx4 gx5 gx6 gx7 gx8 gx9 hR hL hl
      dsimp only [fL_marksIn_S0] at hk
      refine lv_iconst (v := tw_I 0) hC.1 hC.2.1 dL_marksIn_94 rfl ?_
      cases hk
      exact ih _ out hf H locs _ gx3 gx4 gx5 gx6 gx7 gx8 gx9 ((tw_rgL rfl)) hR hL (lv_sub hl [0, 1, 2, 3, 4, 5, 6, 7, 8, 9] rfl)
    · intro H locs ls gx3 gx4 gx5 gx6 gx7 gx8 gx9 gs0 hR hL hl
      dsimp only [fL_marksIn_S0] at hk
      refine lv_istore (lv' := [(10, .int (tw_I s0)), (0, .ref a1), (1, .int (tw_I a2)), (2, .int (tw_I a3)), (3, .int (tw_I x3)), (4, .int (tw_I x4)), (5, .int (tw_I x5)), (6, .int (tw_I x6)), (7, .int (tw_I x7)), (8, .int (tw_I x8)), (9, .int (tw_I x9))]) hC.1 hC.2.1 dL_marksIn_95 hl (by decide) rfl (fun ls hl => ?_)
      refine lv_iload hC.1 hC.2.1 dL_marksIn_97 (lv_at hl 8 rfl) ?_
      refine lv_bipush (v := tw_I (-99)) hC.1 hC.2.1 dL_marksIn_99 (by decide) ?_
      refine tw_cne (tgt := 136) hC hk gx7 ((tw_rgL rfl)) dL_marksIn_101 (by decide) (fun _ hk => ?_) (fun _ hk => ?_)
      · refine lv_aload_n hC.1 hC.2.1 dL_marksIn_104 rfl (lv_at hl 1 rfl) ?_
        refine lv_iload_n hC.1 hC.2.1 dL_marksIn_105 rfl (lv_at hl 2 rfl) ?_
        refine lv_iload hC.1 hC.2.1 dL_marksIn_106 (lv_at hl 5 rfl) ?_
        refine lv_iconst (v := tw_I 2) hC.1 hC.2.1 dL_marksIn_108 rfl ?_
        refine kX8_place hC hR hL hk ga2 gx4 ((tw_rgL rfl)) mlL_19 ⟨by decide, by decide⟩ hl.1 (Nat.le_of_ble_eq_true rfl) ⟨Nat.zero_le _, Nat.zero_le _⟩ dL_marksIn_109 (fun v5 h5 H locs hR hL gv5 hk => ?_)
        refine lv_bipush (v := tw_I (-99)) hC.1 hC.2.1 dL_marksIn_112 (by decide) ?_
        refine tw_cne (tgt := 132) hC hk gv5 ((tw_rgL rfl)) dL_marksIn_114 (by decide) (fun _ hk => ?_) (fun _ hk => ?_)
        · refine lv_aload_n hC.1 hC.2.1 dL_marksIn_117 rfl (lv_at hl 1 rfl) ?_
          refine lv_iload_n hC.1 hC.2.1 dL_marksIn_118 rfl (lv_at hl 2 rfl) ?_
          refine lv_iload hC.1 hC.2.1 dL_marksIn_119 (lv_at hl 5 rfl) ?_
          refine lv_iconst (v := tw_I 3) hC.1 hC.2.1 dL_marksIn_121 rfl ?_
          refine kX8_place hC hR hL hk ga2 gx4 ((tw_rgL rfl)) mlL_19 ⟨by decide, by decide⟩ hl.1 (Nat.le_of_ble_eq_true rfl) ⟨Nat.zero_le _, Nat.zero_le _⟩ dL_marksIn_122 (fun v6 h6 H locs hR hL gv6 hk => ?_)
          refine tw_zne (tgt := 132) hC hk gv6 dL_marksIn_125 (by decide) (fun _ hk => ?_) (fun _ hk => ?_)
          · refine lv_iconst (v := tw_I 1) hC.1 hC.2.1 dL_marksIn_128 rfl ?_
            refine lv_goto (tgt := 189) hC.1 hC.2.1 dL_marksIn_129 (by decide) ?_
            cases hk
            exact ih _ out hf H locs _ gx3 gx4 gx5 gx6 gx7 gx8 gx9 gs0 ((tw_rgL rfl)) hR hL (lv_sub hl [1, 2, 3, 4, 5, 6, 7, 8, 9, 10, 0] rfl)
          · cases hk
            exact ih _ out hf H locs _ gx3 gx4 gx5 gx6 gx7 gx8 gx9 gs0 hR hL (lv_sub hl [1, 2, 3, 4, 5, 6, 7, 8, 9, 10, 0] rfl)
        · cases hk
          exact ih _ out hf H locs _ gx3 gx4 gx5 gx6 gx7 gx8 gx9 gs0 hR hL (lv_sub hl [1, 2, 3, 4, 5, 6, 7, 8, 9, 10, 0] rfl)
      · refine lv_iload hC.1 hC.2.1 dL_marksIn_136 (lv_at hl 8 rfl) ?_
        refine tw_zlt (tgt := 188) hC hk gx7 dL_marksIn_138 (by decide) (fun _ hk => ?_) (fun _ hk => ?_)
        · cases hk
          exact ih _ out hf H locs _ gx3 gx4 gx5 gx6 gx7 gx8 gx9 gs0 hR hL (lv_sub hl [1, 2, 3, 4, 5, 6, 7, 8, 9, 10, 0] rfl)
        · refine lv_iload hC.1 hC.2.1 dL_marksIn_141 (lv_at hl 5 rfl) ?_
          refine lv_iload hC.1 hC.2.1 dL_marksIn_143 (lv_at hl 9 rfl) ?_
          refine tw_iadd hC dL_marksIn_145 ?_
          refine lv_iload_n hC.1 hC.2.1 dL_marksIn_146 rfl (lv_at hl 4 rfl) ?_
          refine tw_cgt (tgt := 188) hC hk ((tm_wr_rg _)) gx3 dL_marksIn_147 (by decide) (fun _ hk => ?_) (fun _ hk => ?_)
          · cases hk
            exact ih _ out hf H locs _ gx3 gx4 gx5 gx6 gx7 gx8 gx9 gs0 hR hL (lv_sub hl [1, 2, 3, 4, 5, 6, 7, 8, 9, 10, 0] rfl)
          · refine lv_aload_n hC.1 hC.2.1 dL_marksIn_150 rfl (lv_at hl 1 rfl) ?_
            refine lv_iload hC.1 hC.2.1 dL_marksIn_151 (lv_at hl 8 rfl) ?_
            refine lv_iload_n hC.1 hC.2.1 dL_marksIn_153 rfl (lv_at hl 2 rfl) ?_
            refine kX8_firstUse hC hR hL hk gx7 ga2 mlL_73 ⟨by decide, by decide⟩ hl.1 (Nat.le_of_ble_eq_true rfl) ⟨Nat.zero_le _, Nat.zero_le _⟩ dL_marksIn_154 (fun v7 h7 H locs hR hL gv7 hk => ?_)
            refine lv_iload hC.1 hC.2.1 dL_marksIn_157 (lv_at hl 5 rfl) ?_
            refine tw_cgt (tgt := 188) hC hk gv7 gx4 dL_marksIn_159 (by decide) (fun _ hk => ?_) (fun _ hk => ?_)
            · cases hk
              exact ih _ out hf H locs _ gx3 gx4 gx5 gx6 gx7 gx8 gx9 gs0 hR hL (lv_sub hl [1, 2, 3, 4, 5, 6, 7, 8, 9, 10, 0] rfl)
            · refine lv_aload_n hC.1 hC.2.1 dL_marksIn_162 rfl (lv_at hl 1 rfl) ?_
              refine lv_iload hC.1 hC.2.1 dL_marksIn_163 (lv_at hl 8 rfl) ?_
              refine lv_iload_n hC.1 hC.2.1 dL_marksIn_165 rfl (lv_at hl 2 rfl) ?_
              refine kX8_firstUse hC hR hL hk gx7 ga2 mlL_73 ⟨by decide, by decide⟩ hl.1 (Nat.le_of_ble_eq_true rfl) ⟨Nat.zero_le _, Nat.zero_le _⟩ dL_marksIn_166 (fun v8 h8 H locs hR hL gv8 hk => ?_)
              refine lv_iload hC.1 hC.2.1 dL_marksIn_169 (lv_at hl 5 rfl) ?_
              refine tw_cne (tgt := 178) hC hk gv8 gx4 dL_marksIn_171 (by decide) (fun _ hk => ?_) (fun _ hk => ?_)
              · refine lv_iconst (v := tw_I 1) hC.1 hC.2.1 dL_marksIn_174 rfl ?_
                refine lv_goto (tgt := 179) hC.1 hC.2.1 dL_marksIn_175 (by decide) ?_
                cases hk
                exact ih _ out hf H locs _ gx3 gx4 gx5 gx6 gx7 gx8 gx9 gs0 ((tw_rgL rfl)) hR hL (lv_sub hl [1, 2, 3, 4, 5, 6, 7, 8, 9, 10, 0] rfl)
              · refine lv_iconst (v := tw_I 0) hC.1 hC.2.1 dL_marksIn_178 rfl ?_
                cases hk
                exact ih _ out hf H locs _ gx3 gx4 gx5 gx6 gx7 gx8 gx9 gs0 ((tw_rgL rfl)) hR hL (lv_sub hl [1, 2, 3, 4, 5, 6, 7, 8, 9, 10, 0] rfl)
    · intro H locs ls gx3 gx4 gx5 gx6 gx7 gx8 gx9 gx10 hR hL hl
      dsimp only [fL_marksIn_S0] at hk
      refine lv_iconst (v := tw_I 0) hC.1 hC.2.1 dL_marksIn_132 rfl ?_
      refine lv_goto (tgt := 189) hC.1 hC.2.1 dL_marksIn_133 (by decide) ?_
      cases hk
      exact ih _ out hf H locs _ gx3 gx4 gx5 gx6 gx7 gx8 gx9 gx10 ((tw_rgL rfl)) hR hL (lv_sub hl [0, 1, 2, 3, 4, 5, 6, 7, 8, 9, 10] rfl)
    · intro H locs ls gx3 gx4 gx5 gx6 gx7 gx8 gx9 gx10 gs0 hR hL hl
      dsimp only [fL_marksIn_S0] at hk
      refine lv_iload hC.1 hC.2.1 dL_marksIn_179 (lv_at hl 9 rfl) ?_
      refine tw_cne (tgt := 188) hC hk gs0 gx9 dL_marksIn_181 (by decide) (fun _ hk => ?_) (fun _ hk => ?_)
      · refine lv_iconst (v := tw_I 1) hC.1 hC.2.1 dL_marksIn_184 rfl ?_
        refine lv_goto (tgt := 189) hC.1 hC.2.1 dL_marksIn_185 (by decide) ?_
        cases hk
        exact ih _ out hf H locs _ gx3 gx4 gx5 gx6 gx7 gx8 gx9 gx10 ((tw_rgL rfl)) hR hL (lv_sub hl [0, 1, 2, 3, 4, 5, 6, 7, 8, 9, 10] rfl)
      · cases hk
        exact ih _ out hf H locs _ gx3 gx4 gx5 gx6 gx7 gx8 gx9 gx10 hR hL (lv_sub hl [0, 1, 2, 3, 4, 5, 6, 7, 8, 9, 10] rfl)
    · intro H locs ls gx3 gx4 gx5 gx6 gx7 gx8 gx9 gx10 hR hL hl
      dsimp only [fL_marksIn_S0] at hk
      refine lv_iconst (v := tw_I 0) hC.1 hC.2.1 dL_marksIn_188 rfl ?_
      cases hk
      exact ih _ out hf H locs _ gx3 gx4 gx5 gx6 gx7 gx8 gx9 gx10 ((tw_rgL rfl)) hR hL (lv_sub hl [0, 1, 2, 3, 4, 5, 6, 7, 8, 9, 10] rfl)
    · intro H locs ls gx3 gx4 gx5 gx6 gx7 gx8 gx9 gx10 gs0 hR hL hl
      dsimp only [fL_marksIn_S0] at hk
      refine lv_istore (lv' := [(11, .int (tw_I s0)), (0, .ref a1), (1, .int (tw_I a2)), (2, .int (tw_I a3)), (3, .int (tw_I x3)), (4, .int (tw_I x4)), (5, .int (tw_I x5)), (6, .int (tw_I x6)), (7, .int (tw_I x7)), (8, .int (tw_I x8)), (9, .int (tw_I x9)), (10, .int (tw_I x10))]) hC.1 hC.2.1 dL_marksIn_189 hl (by decide) rfl (fun ls hl => ?_)
      refine lv_iload hC.1 hC.2.1 dL_marksIn_191 (lv_at hl 0 rfl) ?_
      refine tw_zeq (tgt := 273) hC hk gs0 dL_marksIn_193 (by decide) (fun _ hk => ?_) (fun _ hk => ?_)
      · cases hk
        exact ih _ out hf H locs _ gx3 gx4 gx5 gx6 gx7 gx8 gx9 gx10 hR hL (lv_sub hl [1, 2, 3, 4, 5, 6, 7, 8, 9, 10, 11] rfl)
      · refine lv_aload_n hC.1 hC.2.1 dL_marksIn_196 rfl (lv_at hl 1 rfl) ?_
        refine lv_iload_n hC.1 hC.2.1 dL_marksIn_197 rfl (lv_at hl 2 rfl) ?_
        refine lv_iload hC.1 hC.2.1 dL_marksIn_198 (lv_at hl 5 rfl) ?_
        refine lv_iconst (v := tw_I 3) hC.1 hC.2.1 dL_marksIn_200 rfl ?_
        refine kX8_place hC hR hL hk ga2 gx4 ((tw_rgL rfl)) mlL_19 ⟨by decide, by decide⟩ hl.1 (Nat.le_of_ble_eq_true rfl) ⟨Nat.zero_le _, Nat.zero_le _⟩ dL_marksIn_201 (fun v9 h9 H locs hR hL gv9 hk => ?_)
        refine lv_iload hC.1 hC.2.1 dL_marksIn_204 (lv_at hl 11 rfl) ?_
        refine tw_zeq (tgt := 213) hC hk gx10 dL_marksIn_206 (by decide) (fun _ hk => ?_) (fun _ hk => ?_)
        · refine lv_iconst (v := tw_I 0) hC.1 hC.2.1 dL_marksIn_213 rfl ?_
          cases hk
          exact ih _ out hf H locs _ gx3 gx4 gx5 gx6 gx7 gx8 gx9 gx10 gv9 ((tw_rgL rfl)) hR hL (lv_sub hl [1, 2, 3, 4, 5, 6, 7, 8, 9, 10, 11] rfl)
        · refine lv_iconst (v := tw_I 1) hC.1 hC.2.1 dL_marksIn_209 rfl ?_
          refine lv_goto (tgt := 214) hC.1 hC.2.1 dL_marksIn_210 (by decide) ?_
          cases hk
          exact ih _ out hf H locs _ gx3 gx4 gx5 gx6 gx7 gx8 gx9 gx10 gv9 ((tw_rgL rfl)) hR hL (lv_sub hl [1, 2, 3, 4, 5, 6, 7, 8, 9, 10, 11] rfl)
    · intro H locs ls gx3 gx4 gx5 gx6 gx7 gx8 gx9 gx10 gs0 gs1 hR hL hl
      dsimp only [fL_marksIn_S0] at hk
      refine tw_cne (tgt := 273) hC hk gs0 gs1 dL_marksIn_214 (by decide) (fun _ hk => ?_) (fun _ hk => ?_)
      · refine lv_iload hC.1 hC.2.1 dL_marksIn_217 (lv_at hl 10 rfl) ?_
        refine tw_zeq (tgt := 269) hC hk gx10 dL_marksIn_219 (by decide) (fun _ hk => ?_) (fun _ hk => ?_)
        · cases hk
          exact ih _ out hf H locs _ gx3 gx4 gx5 gx6 gx7 gx8 gx9 gx10 hR hL (lv_sub hl [0, 1, 2, 3, 4, 5, 6, 7, 8, 9, 10] rfl)
        · refine lv_aload_n hC.1 hC.2.1 dL_marksIn_222 rfl (lv_at hl 0 rfl) ?_
          refine lv_iload hC.1 hC.2.1 dL_marksIn_223 (lv_at hl 5 rfl) ?_
          refine lv_iconst (v := tw_I 0) hC.1 hC.2.1 dL_marksIn_225 rfl ?_
          refine kX8_mark hC hR hL hk gx5 ((tw_rgL rfl)) mlL_76 ⟨by decide, by decide⟩ hl.1 (Nat.le_of_ble_eq_true rfl) ⟨Nat.zero_le _, Nat.zero_le _⟩ dL_marksIn_226 (fun v10 h10 H locs hR hL gv10 hk => ?_)
          refine lv_iload_n hC.1 hC.2.1 dL_marksIn_229 rfl (lv_at hl 1 rfl) ?_
          refine tw_cne (tgt := 273) hC hk gv10 ga2 dL_marksIn_230 (by decide) (fun _ hk => ?_) (fun _ hk => ?_)
          · refine lv_aload_n hC.1 hC.2.1 dL_marksIn_233 rfl (lv_at hl 0 rfl) ?_
            refine lv_iload hC.1 hC.2.1 dL_marksIn_234 (lv_at hl 5 rfl) ?_
            refine lv_iconst (v := tw_I 1) hC.1 hC.2.1 dL_marksIn_236 rfl ?_
            refine kX8_mark hC hR hL hk gx5 ((tw_rgL rfl)) mlL_76 ⟨by decide, by decide⟩ hl.1 (Nat.le_of_ble_eq_true rfl) ⟨Nat.zero_le _, Nat.zero_le _⟩ dL_marksIn_237 (fun v11 h11 H locs hR hL gv11 hk => ?_)
            refine lv_iload hC.1 hC.2.1 dL_marksIn_240 (lv_at hl 4 rfl) ?_
            refine tw_cne (tgt := 273) hC hk gv11 gx4 dL_marksIn_242 (by decide) (fun _ hk => ?_) (fun _ hk => ?_)
            · refine lv_aload_n hC.1 hC.2.1 dL_marksIn_245 rfl (lv_at hl 0 rfl) ?_
              refine lv_iload hC.1 hC.2.1 dL_marksIn_246 (lv_at hl 5 rfl) ?_
              refine lv_iconst (v := tw_I 2) hC.1 hC.2.1 dL_marksIn_248 rfl ?_
              refine kX8_mark hC hR hL hk gx5 ((tw_rgL rfl)) mlL_76 ⟨by decide, by decide⟩ hl.1 (Nat.le_of_ble_eq_true rfl) ⟨Nat.zero_le _, Nat.zero_le _⟩ dL_marksIn_249 (fun v12 h12 H locs hR hL gv12 hk => ?_)
              refine lv_iload hC.1 hC.2.1 dL_marksIn_252 (lv_at hl 7 rfl) ?_
              refine tw_cne (tgt := 273) hC hk gv12 gx7 dL_marksIn_254 (by decide) (fun _ hk => ?_) (fun _ hk => ?_)
              · refine lv_aload_n hC.1 hC.2.1 dL_marksIn_257 rfl (lv_at hl 0 rfl) ?_
                refine lv_iload_n hC.1 hC.2.1 dL_marksIn_258 rfl (lv_at hl 1 rfl) ?_
                refine lv_iload hC.1 hC.2.1 dL_marksIn_259 (lv_at hl 4 rfl) ?_
                refine lv_iload hC.1 hC.2.1 dL_marksIn_261 (lv_at hl 7 rfl) ?_
                refine kX8_why hC hR hL hk ga2 gx4 gx7 mlL_79 ⟨by decide, by decide⟩ hl.1 (Nat.le_of_ble_eq_true rfl) ⟨Nat.zero_le _, Nat.zero_le _⟩ dL_marksIn_263 (fun v13 h13 H locs hR hL gv13 hk => ?_)
                refine tw_zne (tgt := 273) hC hk gv13 dL_marksIn_266 (by decide) (fun _ hk => ?_) (fun _ hk => ?_)
                · cases hk
                  exact ih _ out hf H locs _ gx3 gx4 gx5 gx6 gx7 gx8 gx9 gx10 hR hL (lv_sub hl [0, 1, 2, 3, 4, 5, 6, 7, 8, 9, 10] rfl)
                · cases hk
                  exact ih _ out hf H locs _ gx3 gx4 gx5 gx6 gx7 gx8 gx9 gx10 hR hL (lv_sub hl [0, 1, 2, 3, 4, 5, 6, 7, 8, 9, 10] rfl)
              · cases hk
                exact ih _ out hf H locs _ gx3 gx4 gx5 gx6 gx7 gx8 gx9 gx10 hR hL (lv_sub hl [0, 1, 2, 3, 4, 5, 6, 7, 8, 9, 10] rfl)
            · cases hk
              exact ih _ out hf H locs _ gx3 gx4 gx5 gx6 gx7 gx8 gx9 gx10 hR hL (lv_sub hl [0, 1, 2, 3, 4, 5, 6, 7, 8, 9, 10] rfl)
          · cases hk
            exact ih _ out hf H locs _ gx3 gx4 gx5 gx6 gx7 gx8 gx9 gx10 hR hL (lv_sub hl [0, 1, 2, 3, 4, 5, 6, 7, 8, 9, 10] rfl)
      · cases hk
        exact ih _ out hf H locs _ gx3 gx4 gx5 gx6 gx7 gx8 gx9 gx10 hR hL (lv_sub hl [0, 1, 2, 3, 4, 5, 6, 7, 8, 9, 10] rfl)
    · intro H locs ls gx3 gx4 gx5 gx6 gx7 gx8 gx9 gx10 hR hL hl
      dsimp only [fL_marksIn_S0] at hk
      refine lv_iconst (v := tw_I 1) hC.1 hC.2.1 dL_marksIn_269 rfl ?_
      refine lv_goto (tgt := 274) hC.1 hC.2.1 dL_marksIn_270 (by decide) ?_
      cases hk
      exact ih _ out hf H locs _ gx3 gx4 gx5 gx6 gx7 gx8 gx9 gx10 ((tw_rgL rfl)) hR hL (lv_sub hl [0, 1, 2, 3, 4, 5, 6, 7, 8, 9, 10] rfl)
    · intro H locs ls gx3 gx4 gx5 gx6 gx7 gx8 gx9 gx10 hR hL hl
      dsimp only [fL_marksIn_S0] at hk
      refine lv_iconst (v := tw_I 0) hC.1 hC.2.1 dL_marksIn_273 rfl ?_
      cases hk
      exact ih _ out hf H locs _ gx3 gx4 gx5 gx6 gx7 gx8 gx9 gx10 ((tw_rgL rfl)) hR hL (lv_sub hl [0, 1, 2, 3, 4, 5, 6, 7, 8, 9, 10] rfl)
    · intro H locs ls gx3 gx4 gx5 gx6 gx7 gx8 gx9 gx10 gs0 hR hL hl
      dsimp only [fL_marksIn_S0] at hk
      refine lv_istore (lv' := [(11, .int (tw_I s0)), (0, .ref a1), (1, .int (tw_I a2)), (2, .int (tw_I a3)), (3, .int (tw_I x3)), (4, .int (tw_I x4)), (5, .int (tw_I x5)), (6, .int (tw_I x6)), (7, .int (tw_I x7)), (8, .int (tw_I x8)), (9, .int (tw_I x9)), (10, .int (tw_I x10))]) hC.1 hC.2.1 dL_marksIn_274 hl (by decide) rfl (fun ls hl => ?_)
      refine lv_iconst (v := tw_I 0) hC.1 hC.2.1 dL_marksIn_276 rfl ?_
      refine lv_istore (lv' := [(12, .int (tw_I 0)), (11, .int (tw_I s0)), (0, .ref a1), (1, .int (tw_I a2)), (2, .int (tw_I a3)), (3, .int (tw_I x3)), (4, .int (tw_I x4)), (5, .int (tw_I x5)), (6, .int (tw_I x6)), (7, .int (tw_I x7)), (8, .int (tw_I x8)), (9, .int (tw_I x9)), (10, .int (tw_I x10))]) hC.1 hC.2.1 dL_marksIn_277 hl (by decide) rfl (fun ls hl => ?_)
      cases hk
      exact ih _ out hf H locs _ gx3 gx4 gx5 gx6 gx7 gx8 gx9 gx10 gs0 ((tw_rgL rfl)) hR hL (lv_sub hl [2, 3, 4, 5, 6, 7, 8, 9, 10, 11, 12, 1, 0] rfl)
    · intro H locs ls gx3 gx4 gx5 gx6 gx7 gx8 gx9 gx10 gx11 gx12 hR hL hl
      dsimp only [fL_marksIn_S0] at hk
      refine lv_iload hC.1 hC.2.1 dL_marksIn_279 (lv_at hl 12 rfl) ?_
      refine lv_iload hC.1 hC.2.1 dL_marksIn_281 (lv_at hl 8 rfl) ?_
      refine tw_cge (tgt := 431) hC hk gx12 gx8 dL_marksIn_283 (by decide) (fun _ hk => ?_) (fun _ hk => ?_)
      · refine lv_iload hC.1 hC.2.1 dL_marksIn_286 (lv_at hl 7 rfl) ?_
        refine lv_bipush (v := tw_I (-99)) hC.1 hC.2.1 dL_marksIn_288 (by decide) ?_
        refine tw_ceq (tgt := 431) hC hk gx7 ((tw_rgL rfl)) dL_marksIn_290 (by decide) (fun _ hk => ?_) (fun _ hk => ?_)
        · cases hk
          exact ih _ out hf H locs _ gx3 gx4 gx5 gx6 gx7 gx8 gx9 gx10 gx11 hR hL (lv_sub hl [0, 1, 2, 3, 4, 5, 6, 7, 8, 9, 10, 11] rfl)
        · refine lv_iload hC.1 hC.2.1 dL_marksIn_293 (lv_at hl 11 rfl) ?_
          refine tw_zeq (tgt := 431) hC hk gx11 dL_marksIn_295 (by decide) (fun _ hk => ?_) (fun _ hk => ?_)
          · cases hk
            exact ih _ out hf H locs _ gx3 gx4 gx5 gx6 gx7 gx8 gx9 gx10 gx11 hR hL (lv_sub hl [0, 1, 2, 3, 4, 5, 6, 7, 8, 9, 10, 11] rfl)
          · refine lv_aload_n hC.1 hC.2.1 dL_marksIn_298 rfl (lv_at hl 0 rfl) ?_
            refine lv_iload_n hC.1 hC.2.1 dL_marksIn_299 rfl (lv_at hl 1 rfl) ?_
            refine lv_iload hC.1 hC.2.1 dL_marksIn_300 (lv_at hl 4 rfl) ?_
            refine lv_iload hC.1 hC.2.1 dL_marksIn_302 (lv_at hl 12 rfl) ?_
            refine tw_iadd hC dL_marksIn_304 ?_
            refine lv_iconst (v := tw_I 1) hC.1 hC.2.1 dL_marksIn_305 rfl ?_
            refine kX8_place hC hR hL hk ga2 ((tm_wr_rg _)) ((tw_rgL rfl)) mlL_19 ⟨by decide, by decide⟩ hl.1 (Nat.le_of_ble_eq_true rfl) ⟨Nat.zero_le _, Nat.zero_le _⟩ dL_marksIn_306 (fun v14 h14 H locs hR hL gv14 hk => ?_)
            refine lv_iload hC.1 hC.2.1 dL_marksIn_309 (lv_at hl 7 rfl) ?_
            refine tw_cne (tgt := 422) hC hk gv14 gx7 dL_marksIn_311 (by decide) (fun _ hk => ?_) (fun _ hk => ?_)
            · refine lv_aload_n hC.1 hC.2.1 dL_marksIn_314 rfl (lv_at hl 0 rfl) ?_
              refine lv_iload_n hC.1 hC.2.1 dL_marksIn_315 rfl (lv_at hl 1 rfl) ?_
              refine lv_iload hC.1 hC.2.1 dL_marksIn_316 (lv_at hl 4 rfl) ?_
              refine lv_iload hC.1 hC.2.1 dL_marksIn_318 (lv_at hl 12 rfl) ?_
              refine tw_iadd hC dL_marksIn_320 ?_
              refine lv_iconst (v := tw_I 2) hC.1 hC.2.1 dL_marksIn_321 rfl ?_
              refine kX8_place hC hR hL hk ga2 ((tm_wr_rg _)) ((tw_rgL rfl)) mlL_19 ⟨by decide, by decide⟩ hl.1 (Nat.le_of_ble_eq_true rfl) ⟨Nat.zero_le _, Nat.zero_le _⟩ dL_marksIn_322 (fun v15 h15 H locs hR hL gv15 hk => ?_)
              refine lv_iload hC.1 hC.2.1 dL_marksIn_325 (lv_at hl 12 rfl) ?_
              refine tw_cne (tgt := 422) hC hk gv15 gx12 dL_marksIn_327 (by decide) (fun _ hk => ?_) (fun _ hk => ?_)
              · refine lv_iload hC.1 hC.2.1 dL_marksIn_330 (lv_at hl 12 rfl) ?_
                refine tw_zeq (tgt := 349) hC hk gx12 dL_marksIn_332 (by decide) (fun _ hk => ?_) (fun _ hk => ?_)
                · cases hk
                  exact ih _ out hf H locs _ gx3 gx4 gx5 gx6 gx7 gx8 gx9 gx10 gx12 hR hL (lv_sub hl [0, 1, 2, 3, 4, 5, 6, 7, 8, 9, 10, 12] rfl)
                · refine lv_aload_n hC.1 hC.2.1 dL_marksIn_335 rfl (lv_at hl 0 rfl) ?_
                  refine lv_iload_n hC.1 hC.2.1 dL_marksIn_336 rfl (lv_at hl 1 rfl) ?_
                  refine lv_iload hC.1 hC.2.1 dL_marksIn_337 (lv_at hl 4 rfl) ?_
                  refine lv_iload hC.1 hC.2.1 dL_marksIn_339 (lv_at hl 12 rfl) ?_
                  refine tw_iadd hC dL_marksIn_341 ?_
                  refine lv_iconst (v := tw_I 3) hC.1 hC.2.1 dL_marksIn_342 rfl ?_
                  refine kX8_place hC hR hL hk ga2 ((tm_wr_rg _)) ((tw_rgL rfl)) mlL_19 ⟨by decide, by decide⟩ hl.1 (Nat.le_of_ble_eq_true rfl) ⟨Nat.zero_le _, Nat.zero_le _⟩ dL_marksIn_343 (fun v16 h16 H locs hR hL gv16 hk => ?_)
                  refine tw_zne (tgt := 422) hC hk gv16 dL_marksIn_346 (by decide) (fun _ hk => ?_) (fun _ hk => ?_)
                  · cases hk
                    exact ih _ out hf H locs _ gx3 gx4 gx5 gx6 gx7 gx8 gx9 gx10 gx12 hR hL (lv_sub hl [0, 1, 2, 3, 4, 5, 6, 7, 8, 9, 10, 12] rfl)
                  · cases hk
                    exact ih _ out hf H locs _ gx3 gx4 gx5 gx6 gx7 gx8 gx9 gx10 gx12 hR hL (lv_sub hl [0, 1, 2, 3, 4, 5, 6, 7, 8, 9, 10, 12] rfl)
              · cases hk
                exact ih _ out hf H locs _ gx3 gx4 gx5 gx6 gx7 gx8 gx9 gx10 gx12 hR hL (lv_sub hl [0, 1, 2, 3, 4, 5, 6, 7, 8, 9, 10, 12] rfl)
            · cases hk
              exact ih _ out hf H locs _ gx3 gx4 gx5 gx6 gx7 gx8 gx9 gx10 gx12 hR hL (lv_sub hl [0, 1, 2, 3, 4, 5, 6, 7, 8, 9, 10, 12] rfl)
      · cases hk
        exact ih _ out hf H locs _ gx3 gx4 gx5 gx6 gx7 gx8 gx9 gx10 gx11 hR hL (lv_sub hl [0, 1, 2, 3, 4, 5, 6, 7, 8, 9, 10, 11] rfl)
    · intro H locs ls gx3 gx4 gx5 gx6 gx7 gx8 gx9 gx10 gx12 hR hL hl
      dsimp only [fL_marksIn_S0] at hk
      refine lv_aload_n hC.1 hC.2.1 dL_marksIn_349 rfl (lv_at hl 0 rfl) ?_
      refine lv_aload_n hC.1 hC.2.1 dL_marksIn_350 rfl (lv_at hl 0 rfl) ?_
      refine lv_iload_n hC.1 hC.2.1 dL_marksIn_351 rfl (lv_at hl 1 rfl) ?_
      refine lv_iload hC.1 hC.2.1 dL_marksIn_352 (lv_at hl 4 rfl) ?_
      refine lv_iload hC.1 hC.2.1 dL_marksIn_354 (lv_at hl 11 rfl) ?_
      refine tw_iadd hC dL_marksIn_356 ?_
      refine lv_iconst (v := tw_I 0) hC.1 hC.2.1 dL_marksIn_357 rfl ?_
      refine kX8_place hC hR hL hk ga2 ((tm_wr_rg _)) ((tw_rgL rfl)) mlL_19 ⟨by decide, by decide⟩ hl.1 (Nat.le_of_ble_eq_true rfl) ⟨Nat.zero_le _, Nat.zero_le _⟩ dL_marksIn_358 (fun v17 h17 H locs hR hL gv17 hk => ?_)
      refine kX8_base hC hR hL hk gv17 mlL_27 ⟨by decide, by decide⟩ hl.1 (Nat.le_of_ble_eq_true rfl) ⟨Nat.zero_le _, Nat.zero_le _⟩ dL_marksIn_361 (fun v18 H locs hR hL gv18 hk => ?_)
      refine lv_aload_n hC.1 hC.2.1 dL_marksIn_364 rfl (lv_at hl 0 rfl) ?_
      refine lv_aload_n hC.1 hC.2.1 dL_marksIn_365 rfl (lv_at hl 0 rfl) ?_
      refine lv_iload hC.1 hC.2.1 dL_marksIn_366 (lv_at hl 7 rfl) ?_
      refine lv_iconst (v := tw_I 1) hC.1 hC.2.1 dL_marksIn_368 rfl ?_
      refine lv_iload hC.1 hC.2.1 dL_marksIn_369 (lv_at hl 11 rfl) ?_
      refine tw_iadd hC dL_marksIn_371 ?_
      refine kX8_term hC hR hL hk gx7 ((tm_wr_rg _)) mlL_23 ⟨by decide, by decide⟩ hl.1 (Nat.le_of_ble_eq_true rfl) ⟨Nat.zero_le _, Nat.zero_le _⟩ dL_marksIn_372 (fun v19 h19 H locs hR hL gv19 hk => ?_)
      refine kX8_base hC hR hL hk gv19 mlL_27 ⟨by decide, by decide⟩ hl.1 (Nat.le_of_ble_eq_true rfl) ⟨Nat.zero_le _, Nat.zero_le _⟩ dL_marksIn_375 (fun v20 H locs hR hL gv20 hk => ?_)
      refine tw_cne (tgt := 422) hC hk gv18 gv20 dL_marksIn_378 (by decide) (fun _ hk => ?_) (fun _ hk => ?_)
      · refine lv_iload hC.1 hC.2.1 dL_marksIn_381 (lv_at hl 11 rfl) ?_
        refine tw_zeq (tgt := 418) hC hk gx12 dL_marksIn_383 (by decide) (fun _ hk => ?_) (fun _ hk => ?_)
        · cases hk
          exact ih _ out hf H locs _ gx3 gx4 gx5 gx6 gx7 gx8 gx9 gx10 gx12 hR hL (lv_sub hl [0, 1, 2, 3, 4, 5, 6, 7, 8, 9, 10, 11] rfl)
        · refine lv_aload_n hC.1 hC.2.1 dL_marksIn_386 rfl (lv_at hl 0 rfl) ?_
          refine lv_iload_n hC.1 hC.2.1 dL_marksIn_387 rfl (lv_at hl 1 rfl) ?_
          refine lv_iload hC.1 hC.2.1 dL_marksIn_388 (lv_at hl 4 rfl) ?_
          refine lv_iload hC.1 hC.2.1 dL_marksIn_390 (lv_at hl 11 rfl) ?_
          refine tw_iadd hC dL_marksIn_392 ?_
          refine lv_iload hC.1 hC.2.1 dL_marksIn_393 (lv_at hl 7 rfl) ?_
          refine kX8_why hC hR hL hk ga2 ((tm_wr_rg _)) gx7 mlL_79 ⟨by decide, by decide⟩ hl.1 (Nat.le_of_ble_eq_true rfl) ⟨Nat.zero_le _, Nat.zero_le _⟩ dL_marksIn_395 (fun v21 h21 H locs hR hL gv21 hk => ?_)
          refine lv_iconst (v := tw_I 1) hC.1 hC.2.1 dL_marksIn_398 rfl ?_
          refine tw_ceq (tgt := 418) hC hk gv21 ((tw_rgL rfl)) dL_marksIn_399 (by decide) (fun _ hk => ?_) (fun _ hk => ?_)
          · cases hk
            exact ih _ out hf H locs _ gx3 gx4 gx5 gx6 gx7 gx8 gx9 gx10 gx12 hR hL (lv_sub hl [0, 1, 2, 3, 4, 5, 6, 7, 8, 9, 10, 11] rfl)
          · refine lv_aload_n hC.1 hC.2.1 dL_marksIn_402 rfl (lv_at hl 0 rfl) ?_
            refine lv_iload_n hC.1 hC.2.1 dL_marksIn_403 rfl (lv_at hl 1 rfl) ?_
            refine lv_iload hC.1 hC.2.1 dL_marksIn_404 (lv_at hl 4 rfl) ?_
            refine lv_iload hC.1 hC.2.1 dL_marksIn_406 (lv_at hl 11 rfl) ?_
            refine tw_iadd hC dL_marksIn_408 ?_
            refine lv_iload hC.1 hC.2.1 dL_marksIn_409 (lv_at hl 7 rfl) ?_
            refine kX8_why hC hR hL hk ga2 ((tm_wr_rg _)) gx7 mlL_79 ⟨by decide, by decide⟩ hl.1 (Nat.le_of_ble_eq_true rfl) ⟨Nat.zero_le _, Nat.zero_le _⟩ dL_marksIn_411 (fun v22 h22 H locs hR hL gv22 hk => ?_)
            refine lv_iconst (v := tw_I 3) hC.1 hC.2.1 dL_marksIn_414 rfl ?_
            refine tw_cne (tgt := 422) hC hk gv22 ((tw_rgL rfl)) dL_marksIn_415 (by decide) (fun _ hk => ?_) (fun _ hk => ?_)
            · cases hk
              exact ih _ out hf H locs _ gx3 gx4 gx5 gx6 gx7 gx8 gx9 gx10 gx12 hR hL (lv_sub hl [0, 1, 2, 3, 4, 5, 6, 7, 8, 9, 10, 11] rfl)
            · cases hk
              exact ih _ out hf H locs _ gx3 gx4 gx5 gx6 gx7 gx8 gx9 gx10 gx12 hR hL (lv_sub hl [0, 1, 2, 3, 4, 5, 6, 7, 8, 9, 10, 11] rfl)
      · cases hk
        exact ih _ out hf H locs _ gx3 gx4 gx5 gx6 gx7 gx8 gx9 gx10 gx12 hR hL (lv_sub hl [0, 1, 2, 3, 4, 5, 6, 7, 8, 9, 10, 11] rfl)
    · intro H locs ls gx3 gx4 gx5 gx6 gx7 gx8 gx9 gx10 gx12 hR hL hl
      dsimp only [fL_marksIn_S0] at hk
      refine lv_iconst (v := tw_I 1) hC.1 hC.2.1 dL_marksIn_418 rfl ?_
      refine lv_goto (tgt := 423) hC.1 hC.2.1 dL_marksIn_419 (by decide) ?_
      cases hk
      exact ih _ out hf H locs _ gx3 gx4 gx5 gx6 gx7 gx8 gx9 gx10 gx12 ((tw_rgL rfl)) hR hL (lv_sub hl [0, 1, 2, 3, 4, 5, 6, 7, 8, 9, 10, 11] rfl)
    · intro H locs ls gx3 gx4 gx5 gx6 gx7 gx8 gx9 gx10 gx12 hR hL hl
      dsimp only [fL_marksIn_S0] at hk
      refine lv_iconst (v := tw_I 0) hC.1 hC.2.1 dL_marksIn_422 rfl ?_
      cases hk
      exact ih _ out hf H locs _ gx3 gx4 gx5 gx6 gx7 gx8 gx9 gx10 gx12 ((tw_rgL rfl)) hR hL (lv_sub hl [0, 1, 2, 3, 4, 5, 6, 7, 8, 9, 10, 11] rfl)
    · intro H locs ls gx3 gx4 gx5 gx6 gx7 gx8 gx9 gx10 gx12 gs0 hR hL hl
      dsimp only [fL_marksIn_S0] at hk
      refine lv_istore (lv' := [(11, .int (tw_I s0)), (0, .ref a1), (1, .int (tw_I a2)), (2, .int (tw_I a3)), (3, .int (tw_I x3)), (4, .int (tw_I x4)), (5, .int (tw_I x5)), (6, .int (tw_I x6)), (7, .int (tw_I x7)), (8, .int (tw_I x8)), (9, .int (tw_I x9)), (10, .int (tw_I x10)), (12, .int (tw_I x12))]) hC.1 hC.2.1 dL_marksIn_423 hl (by decide) rfl (fun ls hl => ?_)
      refine tw_iinc (lv' := [(12, .int (tw_I (tm_wr (x12 + 1)))), (11, .int (tw_I s0)), (0, .ref a1), (1, .int (tw_I a2)), (2, .int (tw_I a3)), (3, .int (tw_I x3)), (4, .int (tw_I x4)), (5, .int (tw_I x5)), (6, .int (tw_I x6)), (7, .int (tw_I x7)), (8, .int (tw_I x8)), (9, .int (tw_I x9)), (10, .int (tw_I x10))]) hC dL_marksIn_425 hl (k := 12) rfl (by decide) rfl (fun ls hl => ?_)
      refine lv_goto (tgt := 279) hC.1 hC.2.1 dL_marksIn_428 (by decide) ?_
      cases hk
      exact ih _ out hf H locs _ gx3 gx4 gx5 gx6 gx7 gx8 gx9 gx10 gs0 ((tm_wr_rg _)) hR hL (lv_sub hl [2, 3, 4, 5, 6, 7, 8, 9, 10, 11, 12, 1, 0] rfl)
    · intro H locs ls gx3 gx4 gx5 gx6 gx7 gx8 gx9 gx10 gx11 hR hL hl
      dsimp only [fL_marksIn_S0] at hk
      refine lv_iload hC.1 hC.2.1 dL_marksIn_431 (lv_at hl 11 rfl) ?_
      refine tw_zne (tgt := 438) hC hk gx11 dL_marksIn_433 (by decide) (fun _ hk => ?_) (fun _ hk => ?_)
      · refine lv_iconst (v := tw_I (-1)) hC.1 hC.2.1 dL_marksIn_436 rfl ?_
        cases hk
        cases hf
        exact tw_iret hC hR hL ((tw_rgL rfl)) rfl rfl dL_marksIn_437
      · refine lv_iload hC.1 hC.2.1 dL_marksIn_438 (lv_at hl 6 rfl) ?_
        refine lv_iload hC.1 hC.2.1 dL_marksIn_440 (lv_at hl 9 rfl) ?_
        refine tw_zeq (tgt := 452) hC hk gx9 dL_marksIn_442 (by decide) (fun _ hk => ?_) (fun _ hk => ?_)
        · refine lv_iconst (v := tw_I 0) hC.1 hC.2.1 dL_marksIn_452 rfl ?_
          cases hk
          exact ih _ out hf H locs _ gx3 gx4 gx5 gx8 gx10 gx6 ((tw_rgL rfl)) hR hL (lv_sub hl [0, 1, 2, 3, 4, 5, 8, 10] rfl)
        · refine lv_iconst (v := tw_I 1) hC.1 hC.2.1 dL_marksIn_445 rfl ?_
          refine lv_iload hC.1 hC.2.1 dL_marksIn_446 (lv_at hl 7 rfl) ?_
          refine tw_ishl hC dL_marksIn_448 ?_
          refine lv_goto (tgt := 453) hC.1 hC.2.1 dL_marksIn_449 (by decide) ?_
          cases hk
          exact ih _ out hf H locs _ gx3 gx4 gx5 gx8 gx10 gx6 ((tm_shl_rg _ _)) hR hL (lv_sub hl [0, 1, 2, 3, 4, 5, 8, 10] rfl)
    · intro H locs ls gx3 gx4 gx5 gx8 gx10 gs0 gs1 hR hL hl
      dsimp only [fL_marksIn_S0] at hk
      refine tw_ior hC dL_marksIn_453 ?_
      refine lv_istore (lv' := [(6, .int (tw_I (tm_or s0 s1))), (0, .ref a1), (1, .int (tw_I a2)), (2, .int (tw_I a3)), (3, .int (tw_I x3)), (4, .int (tw_I x4)), (5, .int (tw_I x5)), (8, .int (tw_I x8)), (10, .int (tw_I x10))]) hC.1 hC.2.1 dL_marksIn_454 hl (by decide) rfl (fun ls hl => ?_)
      refine lv_iload hC.1 hC.2.1 dL_marksIn_456 (lv_at hl 6 rfl) ?_
      refine lv_iload hC.1 hC.2.1 dL_marksIn_458 (lv_at hl 8 rfl) ?_
      refine tw_zeq (tgt := 467) hC hk gx10 dL_marksIn_460 (by decide) (fun _ hk => ?_) (fun _ hk => ?_)
      · refine lv_iconst (v := tw_I 0) hC.1 hC.2.1 dL_marksIn_467 rfl ?_
        cases hk
        exact ih _ out hf H locs _ gx3 gx4 ((tm_or_rg _ _)) gx8 gx5 ((tw_rgL rfl)) hR hL (lv_sub hl [1, 2, 3, 4, 5, 0, 7] rfl)
      · refine lv_iconst (v := tw_I 1) hC.1 hC.2.1 dL_marksIn_463 rfl ?_
        refine lv_goto (tgt := 468) hC.1 hC.2.1 dL_marksIn_464 (by decide) ?_
        cases hk
        exact ih _ out hf H locs _ gx3 gx4 ((tm_or_rg _ _)) gx8 gx5 ((tw_rgL rfl)) hR hL (lv_sub hl [1, 2, 3, 4, 5, 0, 7] rfl)
    · intro H locs ls gx3 gx4 gx6 gx8 gs0 gs1 hR hL hl
      dsimp only [fL_marksIn_S0] at hk
      refine tw_iadd hC dL_marksIn_468 ?_
      refine lv_istore (lv' := [(5, .int (tw_I (tm_wr (s0 + s1)))), (0, .ref a1), (1, .int (tw_I a2)), (2, .int (tw_I a3)), (3, .int (tw_I x3)), (4, .int (tw_I x4)), (6, .int (tw_I x6)), (8, .int (tw_I x8))]) hC.1 hC.2.1 dL_marksIn_469 hl (by decide) rfl (fun ls hl => ?_)
      refine lv_iload hC.1 hC.2.1 dL_marksIn_471 (lv_at hl 5 rfl) ?_
      refine lv_iload hC.1 hC.2.1 dL_marksIn_473 (lv_at hl 7 rfl) ?_
      refine tw_iadd hC dL_marksIn_475 ?_
      refine lv_istore (lv' := [(4, .int (tw_I (tm_wr (x4 + x8)))), (5, .int (tw_I (tm_wr (s0 + s1)))), (0, .ref a1), (1, .int (tw_I a2)), (2, .int (tw_I a3)), (3, .int (tw_I x3)), (6, .int (tw_I x6)), (8, .int (tw_I x8))]) hC.1 hC.2.1 dL_marksIn_476 hl (by decide) rfl (fun ls hl => ?_)
      refine lv_goto (tgt := 15) hC.1 hC.2.1 dL_marksIn_478 (by decide) ?_
      cases hk
      exact ih _ out hf H locs _ gx3 ((tm_wr_rg _)) ((tm_wr_rg _)) gx6 hR hL (lv_sub hl [2, 3, 4, 5, 0, 1, 6] rfl)
theorem sL_marksIn_L15 {l : Launch} {p : Program} {e : Env} {s : State} {m : MethodId} {args : Array Value} {below : List Frame} {meth : Method} {c : Code} (G : tw_G) (sz : Nat) (hC : tw_C G p s m args meth c RL cL_marksIn 13 (some .int)) (a1 : Nat) (a2 : Int) (a3 : Int) (ga2 : tm_rg a2) (ga3 : tm_rg a3) (x3 : Int) (x4 : Int) (x5 : Int) (x6 : Int) (h : tm_H) (gx3 : tm_rg x3) (gx4 : tm_rg x4) (gx5 : tm_rg x5) (gx6 : tm_rg x6) (out : Int × tm_H) (hk : fL_marksIn_L15 a1 a2 a3 x3 x4 x5 x6 h = some out) (H : Heap) (locs : List Loc) (ls : Array Slot) (hR : tw_Rel G sz h H) (hL : tw_L G locs) (hl : lv_has ls 13 [(0, .ref a1), (1, .int (tw_I a2)), (2, .int (tw_I a3)), (3, .int (tw_I x3)), (4, .int (tw_I x4)), (5, .int (tw_I x5)), (6, .int (tw_I x6))]) : W p l e rmL_marksIn s m args below meth c H locs 0 0 (MQ below (tw_Qi G sz out.1 out.2) args s 0 0 (tw_F G)) (F0 m 15 ls []) := by
  obtain ⟨k, hk⟩ := tm_wl_iff.mp hk
  exact sL_marksIn_S0 G sz hC a1 a2 a3 ga2 ga3 k (.inl ((x3, x4, x5, x6, h))) out hk H locs ls gx3 gx4 gx5 gx6 hR hL hl
theorem sL_marksIn_L49 {l : Launch} {p : Program} {e : Env} {s : State} {m : MethodId} {args : Array Value} {below : List Frame} {meth : Method} {c : Code} (G : tw_G) (sz : Nat) (hC : tw_C G p s m args meth c RL cL_marksIn 13 (some .int)) (a1 : Nat) (a2 : Int) (a3 : Int) (ga2 : tm_rg a2) (ga3 : tm_rg a3) (x3 : Int) (x4 : Int) (x5 : Int) (x6 : Int) (x7 : Int) (s0 : Int) (h : tm_H) (gx3 : tm_rg x3) (gx4 : tm_rg x4) (gx5 : tm_rg x5) (gx6 : tm_rg x6) (gx7 : tm_rg x7) (gs0 : tm_rg s0) (out : Int × tm_H) (hk : fL_marksIn_L49 a1 a2 a3 x3 x4 x5 x6 x7 s0 h = some out) (H : Heap) (locs : List Loc) (ls : Array Slot) (hR : tw_Rel G sz h H) (hL : tw_L G locs) (hl : lv_has ls 13 [(0, .ref a1), (1, .int (tw_I a2)), (2, .int (tw_I a3)), (3, .int (tw_I x3)), (4, .int (tw_I x4)), (5, .int (tw_I x5)), (6, .int (tw_I x6)), (7, .int (tw_I x7))]) : W p l e rmL_marksIn s m args below meth c H locs 0 0 (MQ below (tw_Qi G sz out.1 out.2) args s 0 0 (tw_F G)) (F0 m 49 ls [.int (tw_I s0)]) := by
  obtain ⟨k, hk⟩ := tm_wl_iff.mp hk
  exact sL_marksIn_S0 G sz hC a1 a2 a3 ga2 ga3 k (.inr (.inl ((x3, x4, x5, x6, x7, s0, h)))) out hk H locs ls gx3 gx4 gx5 gx6 gx7 gs0 hR hL hl
theorem sL_marksIn_L72 {l : Launch} {p : Program} {e : Env} {s : State} {m : MethodId} {args : Array Value} {below : List Frame} {meth : Method} {c : Code} (G : tw_G) (sz : Nat) (hC : tw_C G p s m args meth c RL cL_marksIn 13 (some .int)) (a1 : Nat) (a2 : Int) (a3 : Int) (ga2 : tm_rg a2) (ga3 : tm_rg a3) (x3 : Int) (x4 : Int) (x5 : Int) (x6 : Int) (x7 : Int) (x8 : Int) (h : tm_H) (gx3 : tm_rg x3) (gx4 : tm_rg x4) (gx5 : tm_rg x5) (gx6 : tm_rg x6) (gx7 : tm_rg x7) (gx8 : tm_rg x8) (out : Int × tm_H) (hk : fL_marksIn_L72 a1 a2 a3 x3 x4 x5 x6 x7 x8 h = some out) (H : Heap) (locs : List Loc) (ls : Array Slot) (hR : tw_Rel G sz h H) (hL : tw_L G locs) (hl : lv_has ls 13 [(0, .ref a1), (1, .int (tw_I a2)), (2, .int (tw_I a3)), (3, .int (tw_I x3)), (4, .int (tw_I x4)), (5, .int (tw_I x5)), (6, .int (tw_I x6)), (7, .int (tw_I x7)), (8, .int (tw_I x8))]) : W p l e rmL_marksIn s m args below meth c H locs 0 0 (MQ below (tw_Qi G sz out.1 out.2) args s 0 0 (tw_F G)) (F0 m 72 ls []) := by
  obtain ⟨k, hk⟩ := tm_wl_iff.mp hk
  exact sL_marksIn_S0 G sz hC a1 a2 a3 ga2 ga3 k (.inr (.inr (.inl ((x3, x4, x5, x6, x7, x8, h))))) out hk H locs ls gx3 gx4 gx5 gx6 gx7 gx8 hR hL hl
theorem sL_marksIn_L73 {l : Launch} {p : Program} {e : Env} {s : State} {m : MethodId} {args : Array Value} {below : List Frame} {meth : Method} {c : Code} (G : tw_G) (sz : Nat) (hC : tw_C G p s m args meth c RL cL_marksIn 13 (some .int)) (a1 : Nat) (a2 : Int) (a3 : Int) (ga2 : tm_rg a2) (ga3 : tm_rg a3) (x3 : Int) (x4 : Int) (x5 : Int) (x6 : Int) (x7 : Int) (x8 : Int) (s0 : Int) (h : tm_H) (gx3 : tm_rg x3) (gx4 : tm_rg x4) (gx5 : tm_rg x5) (gx6 : tm_rg x6) (gx7 : tm_rg x7) (gx8 : tm_rg x8) (gs0 : tm_rg s0) (out : Int × tm_H) (hk : fL_marksIn_L73 a1 a2 a3 x3 x4 x5 x6 x7 x8 s0 h = some out) (H : Heap) (locs : List Loc) (ls : Array Slot) (hR : tw_Rel G sz h H) (hL : tw_L G locs) (hl : lv_has ls 13 [(0, .ref a1), (1, .int (tw_I a2)), (2, .int (tw_I a3)), (3, .int (tw_I x3)), (4, .int (tw_I x4)), (5, .int (tw_I x5)), (6, .int (tw_I x6)), (7, .int (tw_I x7)), (8, .int (tw_I x8))]) : W p l e rmL_marksIn s m args below meth c H locs 0 0 (MQ below (tw_Qi G sz out.1 out.2) args s 0 0 (tw_F G)) (F0 m 73 ls [.int (tw_I s0)]) := by
  obtain ⟨k, hk⟩ := tm_wl_iff.mp hk
  exact sL_marksIn_S0 G sz hC a1 a2 a3 ga2 ga3 k (.inr (.inr (.inr (.inl ((x3, x4, x5, x6, x7, x8, s0, h)))))) out hk H locs ls gx3 gx4 gx5 gx6 gx7 gx8 gs0 hR hL hl
theorem sL_marksIn_L94 {l : Launch} {p : Program} {e : Env} {s : State} {m : MethodId} {args : Array Value} {below : List Frame} {meth : Method} {c : Code} (G : tw_G) (sz : Nat) (hC : tw_C G p s m args meth c RL cL_marksIn 13 (some .int)) (a1 : Nat) (a2 : Int) (a3 : Int) (ga2 : tm_rg a2) (ga3 : tm_rg a3) (x3 : Int) (x4 : Int) (x5 : Int) (x6 : Int) (x7 : Int) (x8 : Int) (x9 : Int) (h : tm_H) (gx3 : tm_rg x3) (gx4 : tm_rg x4) (gx5 : tm_rg x5) (gx6 : tm_rg x6) (gx7 : tm_rg x7) (gx8 : tm_rg x8) (gx9 : tm_rg x9) (out : Int × tm_H) (hk : fL_marksIn_L94 a1 a2 a3 x3 x4 x5 x6 x7 x8 x9 h = some out) (H : Heap) (locs : List Loc) (ls : Array Slot) (hR : tw_Rel G sz h H) (hL : tw_L G locs) (hl : lv_has ls 13 [(0, .ref a1), (1, .int (tw_I a2)), (2, .int (tw_I a3)), (3, .int (tw_I x3)), (4, .int (tw_I x4)), (5, .int (tw_I x5)), (6, .int (tw_I x6)), (7, .int (tw_I x7)), (8, .int (tw_I x8)), (9, .int (tw_I x9))]) : W p l e rmL_marksIn s m args below meth c H locs 0 0 (MQ below (tw_Qi G sz out.1 out.2) args s 0 0 (tw_F G)) (F0 m 94 ls []) := by
  obtain ⟨k, hk⟩ := tm_wl_iff.mp hk
  exact sL_marksIn_S0 G sz hC a1 a2 a3 ga2 ga3 k (.inr (.inr (.inr (.inr (.inl ((x3, x4, x5, x6, x7, x8, x9, h))))))) out hk H locs ls gx3 gx4 gx5 gx6 gx7 gx8 gx9 hR hL hl
theorem sL_marksIn_L95 {l : Launch} {p : Program} {e : Env} {s : State} {m : MethodId} {args : Array Value} {below : List Frame} {meth : Method} {c : Code} (G : tw_G) (sz : Nat) (hC : tw_C G p s m args meth c RL cL_marksIn 13 (some .int)) (a1 : Nat) (a2 : Int) (a3 : Int) (ga2 : tm_rg a2) (ga3 : tm_rg a3) (x3 : Int) (x4 : Int) (x5 : Int) (x6 : Int) (x7 : Int) (x8 : Int) (x9 : Int) (s0 : Int) (h : tm_H) (gx3 : tm_rg x3) (gx4 : tm_rg x4) (gx5 : tm_rg x5) (gx6 : tm_rg x6) (gx7 : tm_rg x7) (gx8 : tm_rg x8) (gx9 : tm_rg x9) (gs0 : tm_rg s0) (out : Int × tm_H) (hk : fL_marksIn_L95 a1 a2 a3 x3 x4 x5 x6 x7 x8 x9 s0 h = some out) (H : Heap) (locs : List Loc) (ls : Array Slot) (hR : tw_Rel G sz h H) (hL : tw_L G locs) (hl : lv_has ls 13 [(0, .ref a1), (1, .int (tw_I a2)), (2, .int (tw_I a3)), (3, .int (tw_I x3)), (4, .int (tw_I x4)), (5, .int (tw_I x5)), (6, .int (tw_I x6)), (7, .int (tw_I x7)), (8, .int (tw_I x8)), (9, .int (tw_I x9))]) : W p l e rmL_marksIn s m args below meth c H locs 0 0 (MQ below (tw_Qi G sz out.1 out.2) args s 0 0 (tw_F G)) (F0 m 95 ls [.int (tw_I s0)]) := by
  obtain ⟨k, hk⟩ := tm_wl_iff.mp hk
  exact sL_marksIn_S0 G sz hC a1 a2 a3 ga2 ga3 k (.inr (.inr (.inr (.inr (.inr (.inl ((x3, x4, x5, x6, x7, x8, x9, s0, h)))))))) out hk H locs ls gx3 gx4 gx5 gx6 gx7 gx8 gx9 gs0 hR hL hl
theorem sL_marksIn_L132 {l : Launch} {p : Program} {e : Env} {s : State} {m : MethodId} {args : Array Value} {below : List Frame} {meth : Method} {c : Code} (G : tw_G) (sz : Nat) (hC : tw_C G p s m args meth c RL cL_marksIn 13 (some .int)) (a1 : Nat) (a2 : Int) (a3 : Int) (ga2 : tm_rg a2) (ga3 : tm_rg a3) (x3 : Int) (x4 : Int) (x5 : Int) (x6 : Int) (x7 : Int) (x8 : Int) (x9 : Int) (x10 : Int) (h : tm_H) (gx3 : tm_rg x3) (gx4 : tm_rg x4) (gx5 : tm_rg x5) (gx6 : tm_rg x6) (gx7 : tm_rg x7) (gx8 : tm_rg x8) (gx9 : tm_rg x9) (gx10 : tm_rg x10) (out : Int × tm_H) (hk : fL_marksIn_L132 a1 a2 a3 x3 x4 x5 x6 x7 x8 x9 x10 h = some out) (H : Heap) (locs : List Loc) (ls : Array Slot) (hR : tw_Rel G sz h H) (hL : tw_L G locs) (hl : lv_has ls 13 [(0, .ref a1), (1, .int (tw_I a2)), (2, .int (tw_I a3)), (3, .int (tw_I x3)), (4, .int (tw_I x4)), (5, .int (tw_I x5)), (6, .int (tw_I x6)), (7, .int (tw_I x7)), (8, .int (tw_I x8)), (9, .int (tw_I x9)), (10, .int (tw_I x10))]) : W p l e rmL_marksIn s m args below meth c H locs 0 0 (MQ below (tw_Qi G sz out.1 out.2) args s 0 0 (tw_F G)) (F0 m 132 ls []) := by
  obtain ⟨k, hk⟩ := tm_wl_iff.mp hk
  exact sL_marksIn_S0 G sz hC a1 a2 a3 ga2 ga3 k (.inr (.inr (.inr (.inr (.inr (.inr (.inl ((x3, x4, x5, x6, x7, x8, x9, x10, h))))))))) out hk H locs ls gx3 gx4 gx5 gx6 gx7 gx8 gx9 gx10 hR hL hl
theorem sL_marksIn_L179 {l : Launch} {p : Program} {e : Env} {s : State} {m : MethodId} {args : Array Value} {below : List Frame} {meth : Method} {c : Code} (G : tw_G) (sz : Nat) (hC : tw_C G p s m args meth c RL cL_marksIn 13 (some .int)) (a1 : Nat) (a2 : Int) (a3 : Int) (ga2 : tm_rg a2) (ga3 : tm_rg a3) (x3 : Int) (x4 : Int) (x5 : Int) (x6 : Int) (x7 : Int) (x8 : Int) (x9 : Int) (x10 : Int) (s0 : Int) (h : tm_H) (gx3 : tm_rg x3) (gx4 : tm_rg x4) (gx5 : tm_rg x5) (gx6 : tm_rg x6) (gx7 : tm_rg x7) (gx8 : tm_rg x8) (gx9 : tm_rg x9) (gx10 : tm_rg x10) (gs0 : tm_rg s0) (out : Int × tm_H) (hk : fL_marksIn_L179 a1 a2 a3 x3 x4 x5 x6 x7 x8 x9 x10 s0 h = some out) (H : Heap) (locs : List Loc) (ls : Array Slot) (hR : tw_Rel G sz h H) (hL : tw_L G locs) (hl : lv_has ls 13 [(0, .ref a1), (1, .int (tw_I a2)), (2, .int (tw_I a3)), (3, .int (tw_I x3)), (4, .int (tw_I x4)), (5, .int (tw_I x5)), (6, .int (tw_I x6)), (7, .int (tw_I x7)), (8, .int (tw_I x8)), (9, .int (tw_I x9)), (10, .int (tw_I x10))]) : W p l e rmL_marksIn s m args below meth c H locs 0 0 (MQ below (tw_Qi G sz out.1 out.2) args s 0 0 (tw_F G)) (F0 m 179 ls [.int (tw_I s0)]) := by
  obtain ⟨k, hk⟩ := tm_wl_iff.mp hk
  exact sL_marksIn_S0 G sz hC a1 a2 a3 ga2 ga3 k (.inr (.inr (.inr (.inr (.inr (.inr (.inr (.inl ((x3, x4, x5, x6, x7, x8, x9, x10, s0, h)))))))))) out hk H locs ls gx3 gx4 gx5 gx6 gx7 gx8 gx9 gx10 gs0 hR hL hl
theorem sL_marksIn_L188 {l : Launch} {p : Program} {e : Env} {s : State} {m : MethodId} {args : Array Value} {below : List Frame} {meth : Method} {c : Code} (G : tw_G) (sz : Nat) (hC : tw_C G p s m args meth c RL cL_marksIn 13 (some .int)) (a1 : Nat) (a2 : Int) (a3 : Int) (ga2 : tm_rg a2) (ga3 : tm_rg a3) (x3 : Int) (x4 : Int) (x5 : Int) (x6 : Int) (x7 : Int) (x8 : Int) (x9 : Int) (x10 : Int) (h : tm_H) (gx3 : tm_rg x3) (gx4 : tm_rg x4) (gx5 : tm_rg x5) (gx6 : tm_rg x6) (gx7 : tm_rg x7) (gx8 : tm_rg x8) (gx9 : tm_rg x9) (gx10 : tm_rg x10) (out : Int × tm_H) (hk : fL_marksIn_L188 a1 a2 a3 x3 x4 x5 x6 x7 x8 x9 x10 h = some out) (H : Heap) (locs : List Loc) (ls : Array Slot) (hR : tw_Rel G sz h H) (hL : tw_L G locs) (hl : lv_has ls 13 [(0, .ref a1), (1, .int (tw_I a2)), (2, .int (tw_I a3)), (3, .int (tw_I x3)), (4, .int (tw_I x4)), (5, .int (tw_I x5)), (6, .int (tw_I x6)), (7, .int (tw_I x7)), (8, .int (tw_I x8)), (9, .int (tw_I x9)), (10, .int (tw_I x10))]) : W p l e rmL_marksIn s m args below meth c H locs 0 0 (MQ below (tw_Qi G sz out.1 out.2) args s 0 0 (tw_F G)) (F0 m 188 ls []) := by
  obtain ⟨k, hk⟩ := tm_wl_iff.mp hk
  exact sL_marksIn_S0 G sz hC a1 a2 a3 ga2 ga3 k (.inr (.inr (.inr (.inr (.inr (.inr (.inr (.inr (.inl ((x3, x4, x5, x6, x7, x8, x9, x10, h))))))))))) out hk H locs ls gx3 gx4 gx5 gx6 gx7 gx8 gx9 gx10 hR hL hl
theorem sL_marksIn_L189 {l : Launch} {p : Program} {e : Env} {s : State} {m : MethodId} {args : Array Value} {below : List Frame} {meth : Method} {c : Code} (G : tw_G) (sz : Nat) (hC : tw_C G p s m args meth c RL cL_marksIn 13 (some .int)) (a1 : Nat) (a2 : Int) (a3 : Int) (ga2 : tm_rg a2) (ga3 : tm_rg a3) (x3 : Int) (x4 : Int) (x5 : Int) (x6 : Int) (x7 : Int) (x8 : Int) (x9 : Int) (x10 : Int) (s0 : Int) (h : tm_H) (gx3 : tm_rg x3) (gx4 : tm_rg x4) (gx5 : tm_rg x5) (gx6 : tm_rg x6) (gx7 : tm_rg x7) (gx8 : tm_rg x8) (gx9 : tm_rg x9) (gx10 : tm_rg x10) (gs0 : tm_rg s0) (out : Int × tm_H) (hk : fL_marksIn_L189 a1 a2 a3 x3 x4 x5 x6 x7 x8 x9 x10 s0 h = some out) (H : Heap) (locs : List Loc) (ls : Array Slot) (hR : tw_Rel G sz h H) (hL : tw_L G locs) (hl : lv_has ls 13 [(0, .ref a1), (1, .int (tw_I a2)), (2, .int (tw_I a3)), (3, .int (tw_I x3)), (4, .int (tw_I x4)), (5, .int (tw_I x5)), (6, .int (tw_I x6)), (7, .int (tw_I x7)), (8, .int (tw_I x8)), (9, .int (tw_I x9)), (10, .int (tw_I x10))]) : W p l e rmL_marksIn s m args below meth c H locs 0 0 (MQ below (tw_Qi G sz out.1 out.2) args s 0 0 (tw_F G)) (F0 m 189 ls [.int (tw_I s0)]) := by
  obtain ⟨k, hk⟩ := tm_wl_iff.mp hk
  exact sL_marksIn_S0 G sz hC a1 a2 a3 ga2 ga3 k (.inr (.inr (.inr (.inr (.inr (.inr (.inr (.inr (.inr (.inl ((x3, x4, x5, x6, x7, x8, x9, x10, s0, h)))))))))))) out hk H locs ls gx3 gx4 gx5 gx6 gx7 gx8 gx9 gx10 gs0 hR hL hl
theorem sL_marksIn_L214 {l : Launch} {p : Program} {e : Env} {s : State} {m : MethodId} {args : Array Value} {below : List Frame} {meth : Method} {c : Code} (G : tw_G) (sz : Nat) (hC : tw_C G p s m args meth c RL cL_marksIn 13 (some .int)) (a1 : Nat) (a2 : Int) (a3 : Int) (ga2 : tm_rg a2) (ga3 : tm_rg a3) (x3 : Int) (x4 : Int) (x5 : Int) (x6 : Int) (x7 : Int) (x8 : Int) (x9 : Int) (x10 : Int) (s0 : Int) (s1 : Int) (h : tm_H) (gx3 : tm_rg x3) (gx4 : tm_rg x4) (gx5 : tm_rg x5) (gx6 : tm_rg x6) (gx7 : tm_rg x7) (gx8 : tm_rg x8) (gx9 : tm_rg x9) (gx10 : tm_rg x10) (gs0 : tm_rg s0) (gs1 : tm_rg s1) (out : Int × tm_H) (hk : fL_marksIn_L214 a1 a2 a3 x3 x4 x5 x6 x7 x8 x9 x10 s0 s1 h = some out) (H : Heap) (locs : List Loc) (ls : Array Slot) (hR : tw_Rel G sz h H) (hL : tw_L G locs) (hl : lv_has ls 13 [(0, .ref a1), (1, .int (tw_I a2)), (2, .int (tw_I a3)), (3, .int (tw_I x3)), (4, .int (tw_I x4)), (5, .int (tw_I x5)), (6, .int (tw_I x6)), (7, .int (tw_I x7)), (8, .int (tw_I x8)), (9, .int (tw_I x9)), (10, .int (tw_I x10))]) : W p l e rmL_marksIn s m args below meth c H locs 0 0 (MQ below (tw_Qi G sz out.1 out.2) args s 0 0 (tw_F G)) (F0 m 214 ls [.int (tw_I s1), .int (tw_I s0)]) := by
  obtain ⟨k, hk⟩ := tm_wl_iff.mp hk
  exact sL_marksIn_S0 G sz hC a1 a2 a3 ga2 ga3 k (.inr (.inr (.inr (.inr (.inr (.inr (.inr (.inr (.inr (.inr (.inl ((x3, x4, x5, x6, x7, x8, x9, x10, s0, s1, h))))))))))))) out hk H locs ls gx3 gx4 gx5 gx6 gx7 gx8 gx9 gx10 gs0 gs1 hR hL hl
theorem sL_marksIn_L269 {l : Launch} {p : Program} {e : Env} {s : State} {m : MethodId} {args : Array Value} {below : List Frame} {meth : Method} {c : Code} (G : tw_G) (sz : Nat) (hC : tw_C G p s m args meth c RL cL_marksIn 13 (some .int)) (a1 : Nat) (a2 : Int) (a3 : Int) (ga2 : tm_rg a2) (ga3 : tm_rg a3) (x3 : Int) (x4 : Int) (x5 : Int) (x6 : Int) (x7 : Int) (x8 : Int) (x9 : Int) (x10 : Int) (h : tm_H) (gx3 : tm_rg x3) (gx4 : tm_rg x4) (gx5 : tm_rg x5) (gx6 : tm_rg x6) (gx7 : tm_rg x7) (gx8 : tm_rg x8) (gx9 : tm_rg x9) (gx10 : tm_rg x10) (out : Int × tm_H) (hk : fL_marksIn_L269 a1 a2 a3 x3 x4 x5 x6 x7 x8 x9 x10 h = some out) (H : Heap) (locs : List Loc) (ls : Array Slot) (hR : tw_Rel G sz h H) (hL : tw_L G locs) (hl : lv_has ls 13 [(0, .ref a1), (1, .int (tw_I a2)), (2, .int (tw_I a3)), (3, .int (tw_I x3)), (4, .int (tw_I x4)), (5, .int (tw_I x5)), (6, .int (tw_I x6)), (7, .int (tw_I x7)), (8, .int (tw_I x8)), (9, .int (tw_I x9)), (10, .int (tw_I x10))]) : W p l e rmL_marksIn s m args below meth c H locs 0 0 (MQ below (tw_Qi G sz out.1 out.2) args s 0 0 (tw_F G)) (F0 m 269 ls []) := by
  obtain ⟨k, hk⟩ := tm_wl_iff.mp hk
  exact sL_marksIn_S0 G sz hC a1 a2 a3 ga2 ga3 k (.inr (.inr (.inr (.inr (.inr (.inr (.inr (.inr (.inr (.inr (.inr (.inl ((x3, x4, x5, x6, x7, x8, x9, x10, h)))))))))))))) out hk H locs ls gx3 gx4 gx5 gx6 gx7 gx8 gx9 gx10 hR hL hl
theorem sL_marksIn_L273 {l : Launch} {p : Program} {e : Env} {s : State} {m : MethodId} {args : Array Value} {below : List Frame} {meth : Method} {c : Code} (G : tw_G) (sz : Nat) (hC : tw_C G p s m args meth c RL cL_marksIn 13 (some .int)) (a1 : Nat) (a2 : Int) (a3 : Int) (ga2 : tm_rg a2) (ga3 : tm_rg a3) (x3 : Int) (x4 : Int) (x5 : Int) (x6 : Int) (x7 : Int) (x8 : Int) (x9 : Int) (x10 : Int) (h : tm_H) (gx3 : tm_rg x3) (gx4 : tm_rg x4) (gx5 : tm_rg x5) (gx6 : tm_rg x6) (gx7 : tm_rg x7) (gx8 : tm_rg x8) (gx9 : tm_rg x9) (gx10 : tm_rg x10) (out : Int × tm_H) (hk : fL_marksIn_L273 a1 a2 a3 x3 x4 x5 x6 x7 x8 x9 x10 h = some out) (H : Heap) (locs : List Loc) (ls : Array Slot) (hR : tw_Rel G sz h H) (hL : tw_L G locs) (hl : lv_has ls 13 [(0, .ref a1), (1, .int (tw_I a2)), (2, .int (tw_I a3)), (3, .int (tw_I x3)), (4, .int (tw_I x4)), (5, .int (tw_I x5)), (6, .int (tw_I x6)), (7, .int (tw_I x7)), (8, .int (tw_I x8)), (9, .int (tw_I x9)), (10, .int (tw_I x10))]) : W p l e rmL_marksIn s m args below meth c H locs 0 0 (MQ below (tw_Qi G sz out.1 out.2) args s 0 0 (tw_F G)) (F0 m 273 ls []) := by
  obtain ⟨k, hk⟩ := tm_wl_iff.mp hk
  exact sL_marksIn_S0 G sz hC a1 a2 a3 ga2 ga3 k (.inr (.inr (.inr (.inr (.inr (.inr (.inr (.inr (.inr (.inr (.inr (.inr (.inl ((x3, x4, x5, x6, x7, x8, x9, x10, h))))))))))))))) out hk H locs ls gx3 gx4 gx5 gx6 gx7 gx8 gx9 gx10 hR hL hl
theorem sL_marksIn_L274 {l : Launch} {p : Program} {e : Env} {s : State} {m : MethodId} {args : Array Value} {below : List Frame} {meth : Method} {c : Code} (G : tw_G) (sz : Nat) (hC : tw_C G p s m args meth c RL cL_marksIn 13 (some .int)) (a1 : Nat) (a2 : Int) (a3 : Int) (ga2 : tm_rg a2) (ga3 : tm_rg a3) (x3 : Int) (x4 : Int) (x5 : Int) (x6 : Int) (x7 : Int) (x8 : Int) (x9 : Int) (x10 : Int) (s0 : Int) (h : tm_H) (gx3 : tm_rg x3) (gx4 : tm_rg x4) (gx5 : tm_rg x5) (gx6 : tm_rg x6) (gx7 : tm_rg x7) (gx8 : tm_rg x8) (gx9 : tm_rg x9) (gx10 : tm_rg x10) (gs0 : tm_rg s0) (out : Int × tm_H) (hk : fL_marksIn_L274 a1 a2 a3 x3 x4 x5 x6 x7 x8 x9 x10 s0 h = some out) (H : Heap) (locs : List Loc) (ls : Array Slot) (hR : tw_Rel G sz h H) (hL : tw_L G locs) (hl : lv_has ls 13 [(0, .ref a1), (1, .int (tw_I a2)), (2, .int (tw_I a3)), (3, .int (tw_I x3)), (4, .int (tw_I x4)), (5, .int (tw_I x5)), (6, .int (tw_I x6)), (7, .int (tw_I x7)), (8, .int (tw_I x8)), (9, .int (tw_I x9)), (10, .int (tw_I x10))]) : W p l e rmL_marksIn s m args below meth c H locs 0 0 (MQ below (tw_Qi G sz out.1 out.2) args s 0 0 (tw_F G)) (F0 m 274 ls [.int (tw_I s0)]) := by
  obtain ⟨k, hk⟩ := tm_wl_iff.mp hk
  exact sL_marksIn_S0 G sz hC a1 a2 a3 ga2 ga3 k (.inr (.inr (.inr (.inr (.inr (.inr (.inr (.inr (.inr (.inr (.inr (.inr (.inr (.inl ((x3, x4, x5, x6, x7, x8, x9, x10, s0, h)))))))))))))))) out hk H locs ls gx3 gx4 gx5 gx6 gx7 gx8 gx9 gx10 gs0 hR hL hl
theorem sL_marksIn_L279 {l : Launch} {p : Program} {e : Env} {s : State} {m : MethodId} {args : Array Value} {below : List Frame} {meth : Method} {c : Code} (G : tw_G) (sz : Nat) (hC : tw_C G p s m args meth c RL cL_marksIn 13 (some .int)) (a1 : Nat) (a2 : Int) (a3 : Int) (ga2 : tm_rg a2) (ga3 : tm_rg a3) (x3 : Int) (x4 : Int) (x5 : Int) (x6 : Int) (x7 : Int) (x8 : Int) (x9 : Int) (x10 : Int) (x11 : Int) (x12 : Int) (h : tm_H) (gx3 : tm_rg x3) (gx4 : tm_rg x4) (gx5 : tm_rg x5) (gx6 : tm_rg x6) (gx7 : tm_rg x7) (gx8 : tm_rg x8) (gx9 : tm_rg x9) (gx10 : tm_rg x10) (gx11 : tm_rg x11) (gx12 : tm_rg x12) (out : Int × tm_H) (hk : fL_marksIn_L279 a1 a2 a3 x3 x4 x5 x6 x7 x8 x9 x10 x11 x12 h = some out) (H : Heap) (locs : List Loc) (ls : Array Slot) (hR : tw_Rel G sz h H) (hL : tw_L G locs) (hl : lv_has ls 13 [(0, .ref a1), (1, .int (tw_I a2)), (2, .int (tw_I a3)), (3, .int (tw_I x3)), (4, .int (tw_I x4)), (5, .int (tw_I x5)), (6, .int (tw_I x6)), (7, .int (tw_I x7)), (8, .int (tw_I x8)), (9, .int (tw_I x9)), (10, .int (tw_I x10)), (11, .int (tw_I x11)), (12, .int (tw_I x12))]) : W p l e rmL_marksIn s m args below meth c H locs 0 0 (MQ below (tw_Qi G sz out.1 out.2) args s 0 0 (tw_F G)) (F0 m 279 ls []) := by
  obtain ⟨k, hk⟩ := tm_wl_iff.mp hk
  exact sL_marksIn_S0 G sz hC a1 a2 a3 ga2 ga3 k (.inr (.inr (.inr (.inr (.inr (.inr (.inr (.inr (.inr (.inr (.inr (.inr (.inr (.inr (.inl ((x3, x4, x5, x6, x7, x8, x9, x10, x11, x12, h))))))))))))))))) out hk H locs ls gx3 gx4 gx5 gx6 gx7 gx8 gx9 gx10 gx11 gx12 hR hL hl
theorem sL_marksIn_L349 {l : Launch} {p : Program} {e : Env} {s : State} {m : MethodId} {args : Array Value} {below : List Frame} {meth : Method} {c : Code} (G : tw_G) (sz : Nat) (hC : tw_C G p s m args meth c RL cL_marksIn 13 (some .int)) (a1 : Nat) (a2 : Int) (a3 : Int) (ga2 : tm_rg a2) (ga3 : tm_rg a3) (x3 : Int) (x4 : Int) (x5 : Int) (x6 : Int) (x7 : Int) (x8 : Int) (x9 : Int) (x10 : Int) (x12 : Int) (h : tm_H) (gx3 : tm_rg x3) (gx4 : tm_rg x4) (gx5 : tm_rg x5) (gx6 : tm_rg x6) (gx7 : tm_rg x7) (gx8 : tm_rg x8) (gx9 : tm_rg x9) (gx10 : tm_rg x10) (gx12 : tm_rg x12) (out : Int × tm_H) (hk : fL_marksIn_L349 a1 a2 a3 x3 x4 x5 x6 x7 x8 x9 x10 x12 h = some out) (H : Heap) (locs : List Loc) (ls : Array Slot) (hR : tw_Rel G sz h H) (hL : tw_L G locs) (hl : lv_has ls 13 [(0, .ref a1), (1, .int (tw_I a2)), (2, .int (tw_I a3)), (3, .int (tw_I x3)), (4, .int (tw_I x4)), (5, .int (tw_I x5)), (6, .int (tw_I x6)), (7, .int (tw_I x7)), (8, .int (tw_I x8)), (9, .int (tw_I x9)), (10, .int (tw_I x10)), (12, .int (tw_I x12))]) : W p l e rmL_marksIn s m args below meth c H locs 0 0 (MQ below (tw_Qi G sz out.1 out.2) args s 0 0 (tw_F G)) (F0 m 349 ls []) := by
  obtain ⟨k, hk⟩ := tm_wl_iff.mp hk
  exact sL_marksIn_S0 G sz hC a1 a2 a3 ga2 ga3 k (.inr (.inr (.inr (.inr (.inr (.inr (.inr (.inr (.inr (.inr (.inr (.inr (.inr (.inr (.inr (.inl ((x3, x4, x5, x6, x7, x8, x9, x10, x12, h)))))))))))))))))) out hk H locs ls gx3 gx4 gx5 gx6 gx7 gx8 gx9 gx10 gx12 hR hL hl
theorem sL_marksIn_L418 {l : Launch} {p : Program} {e : Env} {s : State} {m : MethodId} {args : Array Value} {below : List Frame} {meth : Method} {c : Code} (G : tw_G) (sz : Nat) (hC : tw_C G p s m args meth c RL cL_marksIn 13 (some .int)) (a1 : Nat) (a2 : Int) (a3 : Int) (ga2 : tm_rg a2) (ga3 : tm_rg a3) (x3 : Int) (x4 : Int) (x5 : Int) (x6 : Int) (x7 : Int) (x8 : Int) (x9 : Int) (x10 : Int) (x12 : Int) (h : tm_H) (gx3 : tm_rg x3) (gx4 : tm_rg x4) (gx5 : tm_rg x5) (gx6 : tm_rg x6) (gx7 : tm_rg x7) (gx8 : tm_rg x8) (gx9 : tm_rg x9) (gx10 : tm_rg x10) (gx12 : tm_rg x12) (out : Int × tm_H) (hk : fL_marksIn_L418 a1 a2 a3 x3 x4 x5 x6 x7 x8 x9 x10 x12 h = some out) (H : Heap) (locs : List Loc) (ls : Array Slot) (hR : tw_Rel G sz h H) (hL : tw_L G locs) (hl : lv_has ls 13 [(0, .ref a1), (1, .int (tw_I a2)), (2, .int (tw_I a3)), (3, .int (tw_I x3)), (4, .int (tw_I x4)), (5, .int (tw_I x5)), (6, .int (tw_I x6)), (7, .int (tw_I x7)), (8, .int (tw_I x8)), (9, .int (tw_I x9)), (10, .int (tw_I x10)), (12, .int (tw_I x12))]) : W p l e rmL_marksIn s m args below meth c H locs 0 0 (MQ below (tw_Qi G sz out.1 out.2) args s 0 0 (tw_F G)) (F0 m 418 ls []) := by
  obtain ⟨k, hk⟩ := tm_wl_iff.mp hk
  exact sL_marksIn_S0 G sz hC a1 a2 a3 ga2 ga3 k (.inr (.inr (.inr (.inr (.inr (.inr (.inr (.inr (.inr (.inr (.inr (.inr (.inr (.inr (.inr (.inr (.inl ((x3, x4, x5, x6, x7, x8, x9, x10, x12, h))))))))))))))))))) out hk H locs ls gx3 gx4 gx5 gx6 gx7 gx8 gx9 gx10 gx12 hR hL hl
theorem sL_marksIn_L422 {l : Launch} {p : Program} {e : Env} {s : State} {m : MethodId} {args : Array Value} {below : List Frame} {meth : Method} {c : Code} (G : tw_G) (sz : Nat) (hC : tw_C G p s m args meth c RL cL_marksIn 13 (some .int)) (a1 : Nat) (a2 : Int) (a3 : Int) (ga2 : tm_rg a2) (ga3 : tm_rg a3) (x3 : Int) (x4 : Int) (x5 : Int) (x6 : Int) (x7 : Int) (x8 : Int) (x9 : Int) (x10 : Int) (x12 : Int) (h : tm_H) (gx3 : tm_rg x3) (gx4 : tm_rg x4) (gx5 : tm_rg x5) (gx6 : tm_rg x6) (gx7 : tm_rg x7) (gx8 : tm_rg x8) (gx9 : tm_rg x9) (gx10 : tm_rg x10) (gx12 : tm_rg x12) (out : Int × tm_H) (hk : fL_marksIn_L422 a1 a2 a3 x3 x4 x5 x6 x7 x8 x9 x10 x12 h = some out) (H : Heap) (locs : List Loc) (ls : Array Slot) (hR : tw_Rel G sz h H) (hL : tw_L G locs) (hl : lv_has ls 13 [(0, .ref a1), (1, .int (tw_I a2)), (2, .int (tw_I a3)), (3, .int (tw_I x3)), (4, .int (tw_I x4)), (5, .int (tw_I x5)), (6, .int (tw_I x6)), (7, .int (tw_I x7)), (8, .int (tw_I x8)), (9, .int (tw_I x9)), (10, .int (tw_I x10)), (12, .int (tw_I x12))]) : W p l e rmL_marksIn s m args below meth c H locs 0 0 (MQ below (tw_Qi G sz out.1 out.2) args s 0 0 (tw_F G)) (F0 m 422 ls []) := by
  obtain ⟨k, hk⟩ := tm_wl_iff.mp hk
  exact sL_marksIn_S0 G sz hC a1 a2 a3 ga2 ga3 k (.inr (.inr (.inr (.inr (.inr (.inr (.inr (.inr (.inr (.inr (.inr (.inr (.inr (.inr (.inr (.inr (.inr (.inl ((x3, x4, x5, x6, x7, x8, x9, x10, x12, h)))))))))))))))))))) out hk H locs ls gx3 gx4 gx5 gx6 gx7 gx8 gx9 gx10 gx12 hR hL hl
theorem sL_marksIn_L423 {l : Launch} {p : Program} {e : Env} {s : State} {m : MethodId} {args : Array Value} {below : List Frame} {meth : Method} {c : Code} (G : tw_G) (sz : Nat) (hC : tw_C G p s m args meth c RL cL_marksIn 13 (some .int)) (a1 : Nat) (a2 : Int) (a3 : Int) (ga2 : tm_rg a2) (ga3 : tm_rg a3) (x3 : Int) (x4 : Int) (x5 : Int) (x6 : Int) (x7 : Int) (x8 : Int) (x9 : Int) (x10 : Int) (x12 : Int) (s0 : Int) (h : tm_H) (gx3 : tm_rg x3) (gx4 : tm_rg x4) (gx5 : tm_rg x5) (gx6 : tm_rg x6) (gx7 : tm_rg x7) (gx8 : tm_rg x8) (gx9 : tm_rg x9) (gx10 : tm_rg x10) (gx12 : tm_rg x12) (gs0 : tm_rg s0) (out : Int × tm_H) (hk : fL_marksIn_L423 a1 a2 a3 x3 x4 x5 x6 x7 x8 x9 x10 x12 s0 h = some out) (H : Heap) (locs : List Loc) (ls : Array Slot) (hR : tw_Rel G sz h H) (hL : tw_L G locs) (hl : lv_has ls 13 [(0, .ref a1), (1, .int (tw_I a2)), (2, .int (tw_I a3)), (3, .int (tw_I x3)), (4, .int (tw_I x4)), (5, .int (tw_I x5)), (6, .int (tw_I x6)), (7, .int (tw_I x7)), (8, .int (tw_I x8)), (9, .int (tw_I x9)), (10, .int (tw_I x10)), (12, .int (tw_I x12))]) : W p l e rmL_marksIn s m args below meth c H locs 0 0 (MQ below (tw_Qi G sz out.1 out.2) args s 0 0 (tw_F G)) (F0 m 423 ls [.int (tw_I s0)]) := by
  obtain ⟨k, hk⟩ := tm_wl_iff.mp hk
  exact sL_marksIn_S0 G sz hC a1 a2 a3 ga2 ga3 k (.inr (.inr (.inr (.inr (.inr (.inr (.inr (.inr (.inr (.inr (.inr (.inr (.inr (.inr (.inr (.inr (.inr (.inr (.inl ((x3, x4, x5, x6, x7, x8, x9, x10, x12, s0, h))))))))))))))))))))) out hk H locs ls gx3 gx4 gx5 gx6 gx7 gx8 gx9 gx10 gx12 gs0 hR hL hl
theorem sL_marksIn_L431 {l : Launch} {p : Program} {e : Env} {s : State} {m : MethodId} {args : Array Value} {below : List Frame} {meth : Method} {c : Code} (G : tw_G) (sz : Nat) (hC : tw_C G p s m args meth c RL cL_marksIn 13 (some .int)) (a1 : Nat) (a2 : Int) (a3 : Int) (ga2 : tm_rg a2) (ga3 : tm_rg a3) (x3 : Int) (x4 : Int) (x5 : Int) (x6 : Int) (x7 : Int) (x8 : Int) (x9 : Int) (x10 : Int) (x11 : Int) (h : tm_H) (gx3 : tm_rg x3) (gx4 : tm_rg x4) (gx5 : tm_rg x5) (gx6 : tm_rg x6) (gx7 : tm_rg x7) (gx8 : tm_rg x8) (gx9 : tm_rg x9) (gx10 : tm_rg x10) (gx11 : tm_rg x11) (out : Int × tm_H) (hk : fL_marksIn_L431 a1 a2 a3 x3 x4 x5 x6 x7 x8 x9 x10 x11 h = some out) (H : Heap) (locs : List Loc) (ls : Array Slot) (hR : tw_Rel G sz h H) (hL : tw_L G locs) (hl : lv_has ls 13 [(0, .ref a1), (1, .int (tw_I a2)), (2, .int (tw_I a3)), (3, .int (tw_I x3)), (4, .int (tw_I x4)), (5, .int (tw_I x5)), (6, .int (tw_I x6)), (7, .int (tw_I x7)), (8, .int (tw_I x8)), (9, .int (tw_I x9)), (10, .int (tw_I x10)), (11, .int (tw_I x11))]) : W p l e rmL_marksIn s m args below meth c H locs 0 0 (MQ below (tw_Qi G sz out.1 out.2) args s 0 0 (tw_F G)) (F0 m 431 ls []) := by
  obtain ⟨k, hk⟩ := tm_wl_iff.mp hk
  exact sL_marksIn_S0 G sz hC a1 a2 a3 ga2 ga3 k (.inr (.inr (.inr (.inr (.inr (.inr (.inr (.inr (.inr (.inr (.inr (.inr (.inr (.inr (.inr (.inr (.inr (.inr (.inr (.inl ((x3, x4, x5, x6, x7, x8, x9, x10, x11, h)))))))))))))))))))))) out hk H locs ls gx3 gx4 gx5 gx6 gx7 gx8 gx9 gx10 gx11 hR hL hl
theorem sL_marksIn_L453 {l : Launch} {p : Program} {e : Env} {s : State} {m : MethodId} {args : Array Value} {below : List Frame} {meth : Method} {c : Code} (G : tw_G) (sz : Nat) (hC : tw_C G p s m args meth c RL cL_marksIn 13 (some .int)) (a1 : Nat) (a2 : Int) (a3 : Int) (ga2 : tm_rg a2) (ga3 : tm_rg a3) (x3 : Int) (x4 : Int) (x5 : Int) (x8 : Int) (x10 : Int) (s0 : Int) (s1 : Int) (h : tm_H) (gx3 : tm_rg x3) (gx4 : tm_rg x4) (gx5 : tm_rg x5) (gx8 : tm_rg x8) (gx10 : tm_rg x10) (gs0 : tm_rg s0) (gs1 : tm_rg s1) (out : Int × tm_H) (hk : fL_marksIn_L453 a1 a2 a3 x3 x4 x5 x8 x10 s0 s1 h = some out) (H : Heap) (locs : List Loc) (ls : Array Slot) (hR : tw_Rel G sz h H) (hL : tw_L G locs) (hl : lv_has ls 13 [(0, .ref a1), (1, .int (tw_I a2)), (2, .int (tw_I a3)), (3, .int (tw_I x3)), (4, .int (tw_I x4)), (5, .int (tw_I x5)), (8, .int (tw_I x8)), (10, .int (tw_I x10))]) : W p l e rmL_marksIn s m args below meth c H locs 0 0 (MQ below (tw_Qi G sz out.1 out.2) args s 0 0 (tw_F G)) (F0 m 453 ls [.int (tw_I s1), .int (tw_I s0)]) := by
  obtain ⟨k, hk⟩ := tm_wl_iff.mp hk
  exact sL_marksIn_S0 G sz hC a1 a2 a3 ga2 ga3 k (.inr (.inr (.inr (.inr (.inr (.inr (.inr (.inr (.inr (.inr (.inr (.inr (.inr (.inr (.inr (.inr (.inr (.inr (.inr (.inr (.inl ((x3, x4, x5, x8, x10, s0, s1, h))))))))))))))))))))))) out hk H locs ls gx3 gx4 gx5 gx8 gx10 gs0 gs1 hR hL hl
theorem sL_marksIn_L468 {l : Launch} {p : Program} {e : Env} {s : State} {m : MethodId} {args : Array Value} {below : List Frame} {meth : Method} {c : Code} (G : tw_G) (sz : Nat) (hC : tw_C G p s m args meth c RL cL_marksIn 13 (some .int)) (a1 : Nat) (a2 : Int) (a3 : Int) (ga2 : tm_rg a2) (ga3 : tm_rg a3) (x3 : Int) (x4 : Int) (x6 : Int) (x8 : Int) (s0 : Int) (s1 : Int) (h : tm_H) (gx3 : tm_rg x3) (gx4 : tm_rg x4) (gx6 : tm_rg x6) (gx8 : tm_rg x8) (gs0 : tm_rg s0) (gs1 : tm_rg s1) (out : Int × tm_H) (hk : fL_marksIn_L468 a1 a2 a3 x3 x4 x6 x8 s0 s1 h = some out) (H : Heap) (locs : List Loc) (ls : Array Slot) (hR : tw_Rel G sz h H) (hL : tw_L G locs) (hl : lv_has ls 13 [(0, .ref a1), (1, .int (tw_I a2)), (2, .int (tw_I a3)), (3, .int (tw_I x3)), (4, .int (tw_I x4)), (6, .int (tw_I x6)), (8, .int (tw_I x8))]) : W p l e rmL_marksIn s m args below meth c H locs 0 0 (MQ below (tw_Qi G sz out.1 out.2) args s 0 0 (tw_F G)) (F0 m 468 ls [.int (tw_I s1), .int (tw_I s0)]) := by
  obtain ⟨k, hk⟩ := tm_wl_iff.mp hk
  exact sL_marksIn_S0 G sz hC a1 a2 a3 ga2 ga3 k (.inr (.inr (.inr (.inr (.inr (.inr (.inr (.inr (.inr (.inr (.inr (.inr (.inr (.inr (.inr (.inr (.inr (.inr (.inr (.inr (.inr ((x3, x4, x6, x8, s0, s1, h))))))))))))))))))))))) out hk H locs ls gx3 gx4 gx6 gx8 gs0 gs1 hR hL hl
set_option maxRecDepth 100000 in
set_option maxHeartbeats 4000000 in
theorem cL_marksIn_ok (l : Launch) (G : tw_G) (sz : Nat) (a1 : Nat) (a2 : Int) (a3 : Int) (ga2 : tm_rg a2) (ga3 : tm_rg a3) (h : tm_H) (out : Int × tm_H) (hk : fL_marksIn a1 a2 a3 h = some out) : Met l yL_marksIn (tw_WS yL_marksIn cL_marksIn 13 (some .int)) rmL_marksIn (va_Pc [.ref a1, .int (tw_I a2), .int (tw_I a3)] (tw_Pre G sz h)) (tw_Qi G sz out.1 out.2) 0 0 (tw_F G) := by
  refine tw_met (by decide +kernel) (Nat.le_of_ble_eq_true rfl) ?_
  intro p e s m args below meth c H ls hC hnm hR hl
  unfold fL_marksIn at hk
  have hl : lv_has ls 13 [(0, .ref a1), (1, .int (tw_I a2)), (2, .int (tw_I a3))] := hl
  have hL : tw_L G [] := fun q z => by cases z
  generalize hlc : ([] : List Loc) = locs at hL ⊢
  refine lv_aload_n hC.1 hC.2.1 dL_marksIn_0 rfl (lv_at hl 0 rfl) ?_
  refine lv_iload_n hC.1 hC.2.1 dL_marksIn_1 rfl (lv_at hl 1 rfl) ?_
  refine kL_size hC hR hL hk ga2 mlL_88 ⟨by decide, by decide⟩ hl.1 (Nat.le_of_ble_eq_true rfl) ⟨Nat.zero_le _, Nat.zero_le _⟩ dL_marksIn_2 (fun v1 h1 H locs hR hL gv1 hk => ?_)
  refine lv_istore_n (lv' := [(3, .int (tw_I v1)), (0, .ref a1), (1, .int (tw_I a2)), (2, .int (tw_I a3))]) hC.1 hC.2.1 dL_marksIn_5 rfl hl (by decide) rfl (fun ls hl => ?_)
  refine lv_iconst (v := tw_I 0) hC.1 hC.2.1 dL_marksIn_6 rfl ?_
  refine lv_istore (lv' := [(4, .int (tw_I 0)), (3, .int (tw_I v1)), (0, .ref a1), (1, .int (tw_I a2)), (2, .int (tw_I a3))]) hC.1 hC.2.1 dL_marksIn_7 hl (by decide) rfl (fun ls hl => ?_)
  refine lv_iload_n hC.1 hC.2.1 dL_marksIn_9 rfl (lv_at hl 4 rfl) ?_
  refine lv_istore (lv' := [(5, .int (tw_I a3)), (4, .int (tw_I 0)), (3, .int (tw_I v1)), (0, .ref a1), (1, .int (tw_I a2)), (2, .int (tw_I a3))]) hC.1 hC.2.1 dL_marksIn_10 hl (by decide) rfl (fun ls hl => ?_)
  refine lv_iconst (v := tw_I 0) hC.1 hC.2.1 dL_marksIn_12 rfl ?_
  refine lv_istore (lv' := [(6, .int (tw_I 0)), (5, .int (tw_I a3)), (4, .int (tw_I 0)), (3, .int (tw_I v1)), (0, .ref a1), (1, .int (tw_I a2)), (2, .int (tw_I a3))]) hC.1 hC.2.1 dL_marksIn_13 hl (by decide) rfl (fun ls hl => ?_)
  exact sL_marksIn_L15 G sz hC a1 a2 a3 ga2 ga3 v1 0 a3 0 h1 gv1 ((tw_rgL rfl)) ga3 ((tw_rgL rfl)) out hk H locs _ hR hL (lv_sub hl [4, 5, 6, 3, 2, 1, 0] rfl)
set_option maxRecDepth 100000 in
theorem kL_marksIn {l : Launch} {p : Program} {e : Env} {R : Room} {s : State} {m : MethodId} {args : Array Value} {below : List Frame} {meth : Method} {c : Code} {H : Heap} {locs : List Loc} {cells slots : Nat} {Q : State → Prop} {cc : ByteArray} {pc nL idx : Nat} {ls : Array Slot} {rest : List Value} {G : tw_G} {h : tm_H} {own : String} {ret : Option FieldType} {α : Type} {x : α} {sz : Nat} {a1 : Nat} {a2 : Int} {a3 : Int} (hC : tw_C G p s m args meth c own cc nL ret) (hR : tw_Rel G sz h H) (hL : tw_L G locs) {F : Int × tm_H → Option α} (hk : (fL_marksIn a1 a2 a3 h).bind F = some x) (ga2 : tm_rg a2) (ga3 : tm_rg a3) (hl : tw_mL own idx yL_marksIn) (hRm : rmL_marksIn.frames + 1 ≤ R.frames ∧ 8 + (13 + 11) + rmL_marksIn.locals ≤ R.locals) (hsz : ls.size = nL) (hW : (rest.map fun v => v.category).sum ≤ 8) (hf : cells + 0 ≤ R.cells ∧ slots + 0 ≤ R.slots) (hdg : decode cc pc = .ok (.invokestatic idx, 3)) (kk : ∀ (r : Int) (h1 : tm_H) (H1 : Heap) (locs1 : List Loc), tw_Rel G sz h1 H1 → tw_L G locs1 → tm_rg r → F (r, h1) = some x → W p l e R s m args below meth c H1 locs1 (cells + 0) (slots + 0) Q (F0 m (pc + 3) ls (.int (tw_I r) :: rest))) : W p l e R s m args below meth c H locs cells slots Q (F0 m pc ls (.int (tw_I a3) :: .int (tw_I a2) :: .ref a1 :: rest)) := by
  obtain ⟨r, hr, hF⟩ := Option.bind_eq_some_iff.mp hk
  exact tw_backi (tw_runS hC hR (cL_marksIn_ok l G sz a1 a2 a3 ga2 ga3 h r hr) (n := 3) ⟨tw_in_TB 622 (by decide +kernel) rfl, tw_in_TB 8 (by decide +kernel) rfl, by decide +kernel⟩ (tw_in_TB 621 (by decide +kernel) rfl) hl ⟨rfl, rfl⟩ hRm rfl hsz rfl hW hdg hf) hL (fun H1 locs1 a b g => kk r.1 r.2 H1 locs1 a b g hF)
def rmL_areReadings : Room := { frames := 9, cells := 0, slots := 0, locals := 216 }
set_option maxRecDepth 100000 in
set_option maxHeartbeats 4000000 in
theorem sL_areReadings_L246 {l : Launch} {p : Program} {e : Env} {s : State} {m : MethodId} {args : Array Value} {below : List Frame} {meth : Method} {c : Code} (G : tw_G) (sz : Nat) (hC : tw_C G p s m args meth c RL cL_areReadings 9 (some .boolean)) (a1 : Nat)  (x1 : Int) (x2 : Int) (x3 : Int) (x4 : Int) (x5 : Int) (x6 : Int) (h : tm_H) (gx1 : tm_rg x1) (gx2 : tm_rg x2) (gx3 : tm_rg x3) (gx4 : tm_rg x4) (gx5 : tm_rg x5) (gx6 : tm_rg x6) (out : Int × tm_H) (hk : fL_areReadings_L246 a1 x1 x2 x3 x4 x5 x6 h = some out) (H : Heap) (locs : List Loc) (ls : Array Slot) (hR : tw_Rel G sz h H) (hL : tw_L G locs) (hl : lv_has ls 9 [(0, .ref a1), (1, .int (tw_I x1)), (2, .int (tw_I x2)), (3, .int (tw_I x3)), (4, .int (tw_I x4)), (5, .int (tw_I x5)), (6, .int (tw_I x6))]) : W p l e rmL_areReadings s m args below meth c H locs 0 0 (MQ below (tw_Qi G sz out.1 out.2) args s 0 0 (tw_F G)) (F0 m 246 ls []) := by
  unfold fL_areReadings_L246 at hk
  refine lv_iload hC.1 hC.2.1 dL_areReadings_246 (lv_at hl 6 rfl) ?_
  refine tw_zeq (tgt := 309) hC hk gx6 dL_areReadings_248 (by decide) (fun _ hk => ?_) (fun _ hk => ?_)
  · refine lv_iconst (v := tw_I 0) hC.1 hC.2.1 dL_areReadings_309 rfl ?_
    cases hk
    exact tw_zret hC hR hL rfl rfl dL_areReadings_310
  · refine lv_iload_n hC.1 hC.2.1 dL_areReadings_251 rfl (lv_at hl 1 rfl) ?_
    refine lv_aload_n hC.1 hC.2.1 dL_areReadings_252 rfl (lv_at hl 0 rfl) ?_
    refine lv_iconst (v := tw_I 4) hC.1 hC.2.1 dL_areReadings_253 rfl ?_
    refine kX8_count hC hR hL hk ((tw_rgL rfl)) mlL_13 ⟨by decide, by decide⟩ hl.1 (Nat.le_of_ble_eq_true rfl) ⟨Nat.zero_le _, Nat.zero_le _⟩ dL_areReadings_254 (fun v18 h18 H locs hR hL gv18 hk => ?_)
    refine tw_cne (tgt := 309) hC hk gx1 gv18 dL_areReadings_257 (by decide) (fun _ hk => ?_) (fun _ hk => ?_)
    · refine lv_iload_n hC.1 hC.2.1 dL_areReadings_260 rfl (lv_at hl 2 rfl) ?_
      refine lv_aload_n hC.1 hC.2.1 dL_areReadings_261 rfl (lv_at hl 0 rfl) ?_
      refine lv_iconst (v := tw_I 1) hC.1 hC.2.1 dL_areReadings_262 rfl ?_
      refine kX8_count hC hR hL hk ((tw_rgL rfl)) mlL_13 ⟨by decide, by decide⟩ hl.1 (Nat.le_of_ble_eq_true rfl) ⟨Nat.zero_le _, Nat.zero_le _⟩ dL_areReadings_263 (fun v19 h19 H locs hR hL gv19 hk => ?_)
      refine tw_cne (tgt := 309) hC hk gx2 gv19 dL_areReadings_266 (by decide) (fun _ hk => ?_) (fun _ hk => ?_)
      · refine lv_iload_n hC.1 hC.2.1 dL_areReadings_269 rfl (lv_at hl 3 rfl) ?_
        refine lv_iload_n hC.1 hC.2.1 dL_areReadings_270 rfl (lv_at hl 1 rfl) ?_
        refine tw_cne (tgt := 309) hC hk gx3 gx1 dL_areReadings_271 (by decide) (fun _ hk => ?_) (fun _ hk => ?_)
        · refine lv_iload hC.1 hC.2.1 dL_areReadings_274 (lv_at hl 4 rfl) ?_
          refine lv_aload_n hC.1 hC.2.1 dL_areReadings_276 rfl (lv_at hl 0 rfl) ?_
          refine lv_iconst (v := tw_I 5) hC.1 hC.2.1 dL_areReadings_277 rfl ?_
          refine kX8_count hC hR hL hk ((tw_rgL rfl)) mlL_13 ⟨by decide, by decide⟩ hl.1 (Nat.le_of_ble_eq_true rfl) ⟨Nat.zero_le _, Nat.zero_le _⟩ dL_areReadings_278 (fun v20 h20 H locs hR hL gv20 hk => ?_)
          refine tw_cne (tgt := 309) hC hk gx4 gv20 dL_areReadings_281 (by decide) (fun _ hk => ?_) (fun _ hk => ?_)
          · refine lv_iload hC.1 hC.2.1 dL_areReadings_284 (lv_at hl 5 rfl) ?_
            refine lv_aload_n hC.1 hC.2.1 dL_areReadings_286 rfl (lv_at hl 0 rfl) ?_
            refine lv_iconst (v := tw_I 3) hC.1 hC.2.1 dL_areReadings_287 rfl ?_
            refine kX8_count hC hR hL hk ((tw_rgL rfl)) mlL_13 ⟨by decide, by decide⟩ hl.1 (Nat.le_of_ble_eq_true rfl) ⟨Nat.zero_le _, Nat.zero_le _⟩ dL_areReadings_288 (fun v21 h21 H locs hR hL gv21 hk => ?_)
            refine tw_cne (tgt := 309) hC hk gx5 gv21 dL_areReadings_291 (by decide) (fun _ hk => ?_) (fun _ hk => ?_)
            · refine lv_aload_n hC.1 hC.2.1 dL_areReadings_294 rfl (lv_at hl 0 rfl) ?_
              refine lv_iload_n hC.1 hC.2.1 dL_areReadings_295 rfl (lv_at hl 1 rfl) ?_
              refine lv_iconst (v := tw_I 0) hC.1 hC.2.1 dL_areReadings_296 rfl ?_
              refine kX8_mark hC hR hL hk gx1 ((tw_rgL rfl)) mlL_76 ⟨by decide, by decide⟩ hl.1 (Nat.le_of_ble_eq_true rfl) ⟨Nat.zero_le _, Nat.zero_le _⟩ dL_areReadings_297 (fun v22 h22 H locs hR hL gv22 hk => ?_)
              refine lv_bipush (v := tw_I (-99)) hC.1 hC.2.1 dL_areReadings_300 (by decide) ?_
              refine tw_cne (tgt := 309) hC hk gv22 ((tw_rgL rfl)) dL_areReadings_302 (by decide) (fun _ hk => ?_) (fun _ hk => ?_)
              · refine lv_iconst (v := tw_I 1) hC.1 hC.2.1 dL_areReadings_305 rfl ?_
                refine lv_goto (tgt := 310) hC.1 hC.2.1 dL_areReadings_306 (by decide) ?_
                cases hk
                exact tw_zret hC hR hL rfl rfl dL_areReadings_310
              · refine lv_iconst (v := tw_I 0) hC.1 hC.2.1 dL_areReadings_309 rfl ?_
                cases hk
                exact tw_zret hC hR hL rfl rfl dL_areReadings_310
            · refine lv_iconst (v := tw_I 0) hC.1 hC.2.1 dL_areReadings_309 rfl ?_
              cases hk
              exact tw_zret hC hR hL rfl rfl dL_areReadings_310
          · refine lv_iconst (v := tw_I 0) hC.1 hC.2.1 dL_areReadings_309 rfl ?_
            cases hk
            exact tw_zret hC hR hL rfl rfl dL_areReadings_310
        · refine lv_iconst (v := tw_I 0) hC.1 hC.2.1 dL_areReadings_309 rfl ?_
          cases hk
          exact tw_zret hC hR hL rfl rfl dL_areReadings_310
      · refine lv_iconst (v := tw_I 0) hC.1 hC.2.1 dL_areReadings_309 rfl ?_
        cases hk
        exact tw_zret hC hR hL rfl rfl dL_areReadings_310
    · refine lv_iconst (v := tw_I 0) hC.1 hC.2.1 dL_areReadings_309 rfl ?_
      cases hk
      exact tw_zret hC hR hL rfl rfl dL_areReadings_310
set_option maxRecDepth 100000 in
set_option maxHeartbeats 4000000 in
theorem sL_areReadings_S1 {l : Launch} {p : Program} {e : Env} {s : State} {m : MethodId} {args : Array Value} {below : List Frame} {meth : Method} {c : Code} (G : tw_G) (sz : Nat) (hC : tw_C G p s m args meth c RL cL_areReadings 9 (some .boolean)) (a1 : Nat)  : ∀ (k : Nat) (st : (Int × Int × Int × Int × Int × Int × Int × tm_H) ⊕ (Int × Int × Int × Int × Int × Int × tm_H) ⊕ (Int × Int × Int × Int × Int × Int × tm_H) ⊕ (Int × Int × Int × Int × Int × Int × Int × tm_H)) (out : Int × tm_H), tm_wit (fL_areReadings_S1 a1) k st = some out → match st with
    | .inl ((x1, x2, x3, x4, x5, x6, x7, h)) => ∀ (H : Heap) (locs : List Loc) (ls : Array Slot), tm_rg x1 → tm_rg x2 → tm_rg x3 → tm_rg x4 → tm_rg x5 → tm_rg x6 → tm_rg x7 → tw_Rel G sz h H → tw_L G locs → lv_has ls 9 [(0, .ref a1), (1, .int (tw_I x1)), (2, .int (tw_I x2)), (3, .int (tw_I x3)), (4, .int (tw_I x4)), (5, .int (tw_I x5)), (6, .int (tw_I x6)), (7, .int (tw_I x7))] → W p l e rmL_areReadings s m args below meth c H locs 0 0 (MQ below (tw_Qi G sz out.1 out.2) args s 0 0 (tw_F G)) (F0 m 74 ls [])
    | .inr (.inl ((x1, x2, x3, x4, x5, x7, h))) => ∀ (H : Heap) (locs : List Loc) (ls : Array Slot), tm_rg x1 → tm_rg x2 → tm_rg x3 → tm_rg x4 → tm_rg x5 → tm_rg x7 → tw_Rel G sz h H → tw_L G locs → lv_has ls 9 [(0, .ref a1), (1, .int (tw_I x1)), (2, .int (tw_I x2)), (3, .int (tw_I x3)), (4, .int (tw_I x4)), (5, .int (tw_I x5)), (7, .int (tw_I x7))] → W p l e rmL_areReadings s m args below meth c H locs 0 0 (MQ below (tw_Qi G sz out.1 out.2) args s 0 0 (tw_F G)) (F0 m 221 ls [])
    | .inr (.inr (.inl ((x1, x2, x3, x4, x5, x7, h)))) => ∀ (H : Heap) (locs : List Loc) (ls : Array Slot), tm_rg x1 → tm_rg x2 → tm_rg x3 → tm_rg x4 → tm_rg x5 → tm_rg x7 → tw_Rel G sz h H → tw_L G locs → lv_has ls 9 [(0, .ref a1), (1, .int (tw_I x1)), (2, .int (tw_I x2)), (3, .int (tw_I x3)), (4, .int (tw_I x4)), (5, .int (tw_I x5)), (7, .int (tw_I x7))] → W p l e rmL_areReadings s m args below meth c H locs 0 0 (MQ below (tw_Qi G sz out.1 out.2) args s 0 0 (tw_F G)) (F0 m 237 ls [])
    | .inr (.inr (.inr ((x1, x2, x3, x4, x5, x7, s0, h)))) => ∀ (H : Heap) (locs : List Loc) (ls : Array Slot), tm_rg x1 → tm_rg x2 → tm_rg x3 → tm_rg x4 → tm_rg x5 → tm_rg x7 → tm_rg s0 → tw_Rel G sz h H → tw_L G locs → lv_has ls 9 [(0, .ref a1), (1, .int (tw_I x1)), (2, .int (tw_I x2)), (3, .int (tw_I x3)), (4, .int (tw_I x4)), (5, .int (tw_I x5)), (7, .int (tw_I x7))] → W p l e rmL_areReadings s m args below meth c H locs 0 0 (MQ below (tw_Qi G sz out.1 out.2) args s 0 0 (tw_F G)) (F0 m 238 ls [.int (tw_I s0)]) := by
  intro k
  induction k with
  | zero =>
    intro st out hk
    exact absurd hk (by unfold tm_wit; exact fun z => by cases z)
  | succ k ih =>
    intro st out hk
    obtain ⟨X, hk, hf⟩ := tm_wit_succ hk
    obtain ⟨x1, x2, x3, x4, x5, x6, x7, h⟩ | ⟨x1, x2, x3, x4, x5, x7, h⟩ | ⟨x1, x2, x3, x4, x5, x7, h⟩ | ⟨x1, x2, x3, x4, x5, x7, s0, h⟩ := st
    · intro H locs ls gx1 gx2 gx3 gx4 gx5 gx6 gx7 hR hL hl
      dsimp only [fL_areReadings_S1] at hk
      refine lv_iload hC.1 hC.2.1 dL_areReadings_74 (lv_at hl 7 rfl) ?_
      refine lv_aload_n hC.1 hC.2.1 dL_areReadings_76 rfl (lv_at hl 0 rfl) ?_
      refine lv_iconst (v := tw_I 2) hC.1 hC.2.1 dL_areReadings_77 rfl ?_
      refine kX8_count hC hR hL hk ((tw_rgL rfl)) mlL_13 ⟨by decide, by decide⟩ hl.1 (Nat.le_of_ble_eq_true rfl) ⟨Nat.zero_le _, Nat.zero_le _⟩ dL_areReadings_78 (fun v3 h3 H locs hR hL gv3 hk => ?_)
      refine tw_cge (tgt := 246) hC hk gx7 gv3 dL_areReadings_81 (by decide) (fun _ hk => ?_) (fun _ hk => ?_)
      · refine lv_iload hC.1 hC.2.1 dL_areReadings_84 (lv_at hl 6 rfl) ?_
        refine tw_zeq (tgt := 246) hC hk gx6 dL_areReadings_86 (by decide) (fun _ hk => ?_) (fun _ hk => ?_)
        · obtain ⟨r, hk2, hX⟩ := tm_out_some hk
          rw [hX] at hf
          have hr : r = out := Option.some.inj hf
          rw [hr] at hk2
          exact sL_areReadings_L246 G sz hC a1 x1 x2 x3 x4 x5 x6 h3 gx1 gx2 gx3 gx4 gx5 gx6 out hk2 H locs _ hR hL (lv_sub hl [0, 1, 2, 3, 4, 5, 6] rfl)
        · refine lv_iload_n hC.1 hC.2.1 dL_areReadings_89 rfl (lv_at hl 3 rfl) ?_
          refine lv_aload_n hC.1 hC.2.1 dL_areReadings_90 rfl (lv_at hl 0 rfl) ?_
          refine lv_iload hC.1 hC.2.1 dL_areReadings_91 (lv_at hl 7 rfl) ?_
          refine lv_bipush (v := tw_I 8) hC.1 hC.2.1 dL_areReadings_93 (by decide) ?_
          refine kX8_term hC hR hL hk gx7 ((tw_rgL rfl)) mlL_23 ⟨by decide, by decide⟩ hl.1 (Nat.le_of_ble_eq_true rfl) ⟨Nat.zero_le _, Nat.zero_le _⟩ dL_areReadings_95 (fun v4 h4 H locs hR hL gv4 hk => ?_)
          refine tw_iadd hC dL_areReadings_98 ?_
          refine lv_istore_n (lv' := [(3, .int (tw_I (tm_wr (x3 + v4)))), (0, .ref a1), (1, .int (tw_I x1)), (2, .int (tw_I x2)), (4, .int (tw_I x4)), (5, .int (tw_I x5)), (6, .int (tw_I x6)), (7, .int (tw_I x7))]) hC.1 hC.2.1 dL_areReadings_99 rfl hl (by decide) rfl (fun ls hl => ?_)
          refine lv_iload hC.1 hC.2.1 dL_areReadings_100 (lv_at hl 4 rfl) ?_
          refine lv_aload_n hC.1 hC.2.1 dL_areReadings_102 rfl (lv_at hl 1 rfl) ?_
          refine lv_iload hC.1 hC.2.1 dL_areReadings_103 (lv_at hl 7 rfl) ?_
          refine lv_bipush (v := tw_I 6) hC.1 hC.2.1 dL_areReadings_105 (by decide) ?_
          refine kX8_term hC hR hL hk gx7 ((tw_rgL rfl)) mlL_23 ⟨by decide, by decide⟩ hl.1 (Nat.le_of_ble_eq_true rfl) ⟨Nat.zero_le _, Nat.zero_le _⟩ dL_areReadings_107 (fun v5 h5 H locs hR hL gv5 hk => ?_)
          refine tw_iadd hC dL_areReadings_110 ?_
          refine lv_istore (lv' := [(4, .int (tw_I (tm_wr (x4 + v5)))), (3, .int (tw_I (tm_wr (x3 + v4)))), (0, .ref a1), (1, .int (tw_I x1)), (2, .int (tw_I x2)), (5, .int (tw_I x5)), (6, .int (tw_I x6)), (7, .int (tw_I x7))]) hC.1 hC.2.1 dL_areReadings_111 hl (by decide) rfl (fun ls hl => ?_)
          refine lv_iload hC.1 hC.2.1 dL_areReadings_113 (lv_at hl 5 rfl) ?_
          refine lv_aload_n hC.1 hC.2.1 dL_areReadings_115 rfl (lv_at hl 2 rfl) ?_
          refine lv_iload hC.1 hC.2.1 dL_areReadings_116 (lv_at hl 7 rfl) ?_
          refine lv_iconst (v := tw_I 5) hC.1 hC.2.1 dL_areReadings_118 rfl ?_
          refine kX8_term hC hR hL hk gx7 ((tw_rgL rfl)) mlL_23 ⟨by decide, by decide⟩ hl.1 (Nat.le_of_ble_eq_true rfl) ⟨Nat.zero_le _, Nat.zero_le _⟩ dL_areReadings_119 (fun v6 h6 H locs hR hL gv6 hk => ?_)
          refine tw_iadd hC dL_areReadings_122 ?_
          refine lv_istore (lv' := [(5, .int (tw_I (tm_wr (x5 + v6)))), (4, .int (tw_I (tm_wr (x4 + v5)))), (3, .int (tw_I (tm_wr (x3 + v4)))), (0, .ref a1), (1, .int (tw_I x1)), (2, .int (tw_I x2)), (6, .int (tw_I x6)), (7, .int (tw_I x7))]) hC.1 hC.2.1 dL_areReadings_123 hl (by decide) rfl (fun ls hl => ?_)
          refine lv_aload_n hC.1 hC.2.1 dL_areReadings_125 rfl (lv_at hl 3 rfl) ?_
          refine lv_iload hC.1 hC.2.1 dL_areReadings_126 (lv_at hl 7 rfl) ?_
          refine lv_bipush (v := tw_I 6) hC.1 hC.2.1 dL_areReadings_128 (by decide) ?_
          refine kX8_term hC hR hL hk gx7 ((tw_rgL rfl)) mlL_23 ⟨by decide, by decide⟩ hl.1 (Nat.le_of_ble_eq_true rfl) ⟨Nat.zero_le _, Nat.zero_le _⟩ dL_areReadings_130 (fun v7 h7 H locs hR hL gv7 hk => ?_)
          refine lv_aload_n hC.1 hC.2.1 dL_areReadings_133 rfl (lv_at hl 3 rfl) ?_
          refine lv_iload hC.1 hC.2.1 dL_areReadings_134 (lv_at hl 7 rfl) ?_
          refine lv_bipush (v := tw_I 7) hC.1 hC.2.1 dL_areReadings_136 (by decide) ?_
          refine kX8_term hC hR hL hk gx7 ((tw_rgL rfl)) mlL_23 ⟨by decide, by decide⟩ hl.1 (Nat.le_of_ble_eq_true rfl) ⟨Nat.zero_le _, Nat.zero_le _⟩ dL_areReadings_138 (fun v8 h8 H locs hR hL gv8 hk => ?_)
          refine tw_cgt (tgt := 237) hC hk gv7 gv8 dL_areReadings_141 (by decide) (fun _ hk => ?_) (fun _ hk => ?_)
          · cases hk
            exact ih _ out hf H locs _ gx1 gx2 ((tm_wr_rg _)) ((tm_wr_rg _)) ((tm_wr_rg _)) gx7 hR hL (lv_sub hl [3, 4, 5, 2, 1, 0, 7] rfl)
          · refine lv_aload_n hC.1 hC.2.1 dL_areReadings_144 rfl (lv_at hl 3 rfl) ?_
            refine lv_iload hC.1 hC.2.1 dL_areReadings_145 (lv_at hl 7 rfl) ?_
            refine lv_bipush (v := tw_I 8) hC.1 hC.2.1 dL_areReadings_147 (by decide) ?_
            refine kX8_term hC hR hL hk gx7 ((tw_rgL rfl)) mlL_23 ⟨by decide, by decide⟩ hl.1 (Nat.le_of_ble_eq_true rfl) ⟨Nat.zero_le _, Nat.zero_le _⟩ dL_areReadings_149 (fun v9 h9 H locs hR hL gv9 hk => ?_)
            refine lv_aload_n hC.1 hC.2.1 dL_areReadings_152 rfl (lv_at hl 3 rfl) ?_
            refine lv_iload hC.1 hC.2.1 dL_areReadings_153 (lv_at hl 7 rfl) ?_
            refine lv_bipush (v := tw_I 6) hC.1 hC.2.1 dL_areReadings_155 (by decide) ?_
            refine kX8_term hC hR hL hk gx7 ((tw_rgL rfl)) mlL_23 ⟨by decide, by decide⟩ hl.1 (Nat.le_of_ble_eq_true rfl) ⟨Nat.zero_le _, Nat.zero_le _⟩ dL_areReadings_157 (fun v10 h10 H locs hR hL gv10 hk => ?_)
            refine tw_cgt (tgt := 237) hC hk gv9 gv10 dL_areReadings_160 (by decide) (fun _ hk => ?_) (fun _ hk => ?_)
            · cases hk
              exact ih _ out hf H locs _ gx1 gx2 ((tm_wr_rg _)) ((tm_wr_rg _)) ((tm_wr_rg _)) gx7 hR hL (lv_sub hl [3, 4, 5, 2, 1, 0, 7] rfl)
            · refine lv_aload_n hC.1 hC.2.1 dL_areReadings_163 rfl (lv_at hl 3 rfl) ?_
              refine lv_iload hC.1 hC.2.1 dL_areReadings_164 (lv_at hl 7 rfl) ?_
              refine lv_iconst (v := tw_I 0) hC.1 hC.2.1 dL_areReadings_166 rfl ?_
              refine kX8_term hC hR hL hk gx7 ((tw_rgL rfl)) mlL_23 ⟨by decide, by decide⟩ hl.1 (Nat.le_of_ble_eq_true rfl) ⟨Nat.zero_le _, Nat.zero_le _⟩ dL_areReadings_167 (fun v11 h11 H locs hR hL gv11 hk => ?_)
              refine tw_zle (tgt := 237) hC hk gv11 dL_areReadings_170 (by decide) (fun _ hk => ?_) (fun _ hk => ?_)
              · refine lv_aload_n hC.1 hC.2.1 dL_areReadings_173 rfl (lv_at hl 3 rfl) ?_
                refine lv_iload hC.1 hC.2.1 dL_areReadings_174 (lv_at hl 7 rfl) ?_
                refine lv_iconst (v := tw_I 0) hC.1 hC.2.1 dL_areReadings_176 rfl ?_
                refine kX8_term hC hR hL hk gx7 ((tw_rgL rfl)) mlL_23 ⟨by decide, by decide⟩ hl.1 (Nat.le_of_ble_eq_true rfl) ⟨Nat.zero_le _, Nat.zero_le _⟩ dL_areReadings_177 (fun v12 h12 H locs hR hL gv12 hk => ?_)
                refine lv_iconst (v := tw_I 5) hC.1 hC.2.1 dL_areReadings_180 rfl ?_
                refine tw_cge (tgt := 237) hC hk gv12 ((tw_rgL rfl)) dL_areReadings_181 (by decide) (fun _ hk => ?_) (fun _ hk => ?_)
                · refine lv_aload_n hC.1 hC.2.1 dL_areReadings_184 rfl (lv_at hl 3 rfl) ?_
                  refine lv_iload hC.1 hC.2.1 dL_areReadings_185 (lv_at hl 7 rfl) ?_
                  refine lv_aload_n hC.1 hC.2.1 dL_areReadings_187 rfl (lv_at hl 3 rfl) ?_
                  refine lv_iload hC.1 hC.2.1 dL_areReadings_188 (lv_at hl 7 rfl) ?_
                  refine lv_iconst (v := tw_I 0) hC.1 hC.2.1 dL_areReadings_190 rfl ?_
                  refine kX8_term hC hR hL hk gx7 ((tw_rgL rfl)) mlL_23 ⟨by decide, by decide⟩ hl.1 (Nat.le_of_ble_eq_true rfl) ⟨Nat.zero_le _, Nat.zero_le _⟩ dL_areReadings_191 (fun v13 h13 H locs hR hL gv13 hk => ?_)
                  refine kX8_term hC hR hL hk gx7 gv13 mlL_23 ⟨by decide, by decide⟩ hl.1 (Nat.le_of_ble_eq_true rfl) ⟨Nat.zero_le _, Nat.zero_le _⟩ dL_areReadings_194 (fun v14 h14 H locs hR hL gv14 hk => ?_)
                  refine tw_zlt (tgt := 237) hC hk gv14 dL_areReadings_197 (by decide) (fun _ hk => ?_) (fun _ hk => ?_)
                  · cases hk
                    exact ih _ out hf H locs _ gx1 gx2 ((tm_wr_rg _)) ((tm_wr_rg _)) ((tm_wr_rg _)) gx7 hR hL (lv_sub hl [3, 4, 5, 2, 1, 0, 7] rfl)
                  · refine lv_aload_n hC.1 hC.2.1 dL_areReadings_200 rfl (lv_at hl 3 rfl) ?_
                    refine lv_iload hC.1 hC.2.1 dL_areReadings_201 (lv_at hl 7 rfl) ?_
                    refine lv_iconst (v := tw_I 5) hC.1 hC.2.1 dL_areReadings_203 rfl ?_
                    refine kX8_term hC hR hL hk gx7 ((tw_rgL rfl)) mlL_23 ⟨by decide, by decide⟩ hl.1 (Nat.le_of_ble_eq_true rfl) ⟨Nat.zero_le _, Nat.zero_le _⟩ dL_areReadings_204 (fun v15 h15 H locs hR hL gv15 hk => ?_)
                    refine tw_zeq (tgt := 221) hC hk gv15 dL_areReadings_207 (by decide) (fun _ hk => ?_) (fun _ hk => ?_)
                    · cases hk
                      exact ih _ out hf H locs _ gx1 gx2 ((tm_wr_rg _)) ((tm_wr_rg _)) ((tm_wr_rg _)) gx7 hR hL (lv_sub hl [3, 4, 5, 2, 1, 0, 7] rfl)
                    · refine lv_aload_n hC.1 hC.2.1 dL_areReadings_210 rfl (lv_at hl 3 rfl) ?_
                      refine lv_iload hC.1 hC.2.1 dL_areReadings_211 (lv_at hl 7 rfl) ?_
                      refine lv_bipush (v := tw_I 8) hC.1 hC.2.1 dL_areReadings_213 (by decide) ?_
                      refine kX8_term hC hR hL hk gx7 ((tw_rgL rfl)) mlL_23 ⟨by decide, by decide⟩ hl.1 (Nat.le_of_ble_eq_true rfl) ⟨Nat.zero_le _, Nat.zero_le _⟩ dL_areReadings_215 (fun v16 h16 H locs hR hL gv16 hk => ?_)
                      refine tw_zne (tgt := 237) hC hk gv16 dL_areReadings_218 (by decide) (fun _ hk => ?_) (fun _ hk => ?_)
                      · cases hk
                        exact ih _ out hf H locs _ gx1 gx2 ((tm_wr_rg _)) ((tm_wr_rg _)) ((tm_wr_rg _)) gx7 hR hL (lv_sub hl [3, 4, 5, 2, 1, 0, 7] rfl)
                      · cases hk
                        exact ih _ out hf H locs _ gx1 gx2 ((tm_wr_rg _)) ((tm_wr_rg _)) ((tm_wr_rg _)) gx7 hR hL (lv_sub hl [3, 4, 5, 2, 1, 0, 7] rfl)
                · cases hk
                  exact ih _ out hf H locs _ gx1 gx2 ((tm_wr_rg _)) ((tm_wr_rg _)) ((tm_wr_rg _)) gx7 hR hL (lv_sub hl [3, 4, 5, 2, 1, 0, 7] rfl)
              · cases hk
                exact ih _ out hf H locs _ gx1 gx2 ((tm_wr_rg _)) ((tm_wr_rg _)) ((tm_wr_rg _)) gx7 hR hL (lv_sub hl [3, 4, 5, 2, 1, 0, 7] rfl)
      · obtain ⟨r, hk2, hX⟩ := tm_out_some hk
        rw [hX] at hf
        have hr : r = out := Option.some.inj hf
        rw [hr] at hk2
        exact sL_areReadings_L246 G sz hC a1 x1 x2 x3 x4 x5 x6 h3 gx1 gx2 gx3 gx4 gx5 gx6 out hk2 H locs _ hR hL (lv_sub hl [0, 1, 2, 3, 4, 5, 6] rfl)
    · intro H locs ls gx1 gx2 gx3 gx4 gx5 gx7 hR hL hl
      dsimp only [fL_areReadings_S1] at hk
      refine lv_aload_n hC.1 hC.2.1 dL_areReadings_221 rfl (lv_at hl 0 rfl) ?_
      refine lv_iload hC.1 hC.2.1 dL_areReadings_222 (lv_at hl 6 rfl) ?_
      refine lv_iload hC.1 hC.2.1 dL_areReadings_224 (lv_at hl 6 rfl) ?_
      refine kX8_nested hC hR hL hk gx7 gx7 mlL_82 ⟨by decide, by decide⟩ hl.1 (Nat.le_of_ble_eq_true rfl) ⟨Nat.zero_le _, Nat.zero_le _⟩ dL_areReadings_226 (fun v17 H locs hR hL gv17 hk => ?_)
      refine lv_iconst (v := tw_I 1) hC.1 hC.2.1 dL_areReadings_229 rfl ?_
      refine tw_cne (tgt := 237) hC hk gv17 ((tw_rgL rfl)) dL_areReadings_230 (by decide) (fun _ hk => ?_) (fun _ hk => ?_)
      · refine lv_iconst (v := tw_I 1) hC.1 hC.2.1 dL_areReadings_233 rfl ?_
        refine lv_goto (tgt := 238) hC.1 hC.2.1 dL_areReadings_234 (by decide) ?_
        cases hk
        exact ih _ out hf H locs _ gx1 gx2 gx3 gx4 gx5 gx7 ((tw_rgL rfl)) hR hL (lv_sub hl [0, 1, 2, 3, 4, 5, 6] rfl)
      · cases hk
        exact ih _ out hf H locs _ gx1 gx2 gx3 gx4 gx5 gx7 hR hL (lv_sub hl [0, 1, 2, 3, 4, 5, 6] rfl)
    · intro H locs ls gx1 gx2 gx3 gx4 gx5 gx7 hR hL hl
      dsimp only [fL_areReadings_S1] at hk
      refine lv_iconst (v := tw_I 0) hC.1 hC.2.1 dL_areReadings_237 rfl ?_
      cases hk
      exact ih _ out hf H locs _ gx1 gx2 gx3 gx4 gx5 gx7 ((tw_rgL rfl)) hR hL (lv_sub hl [0, 1, 2, 3, 4, 5, 6] rfl)
    · intro H locs ls gx1 gx2 gx3 gx4 gx5 gx7 gs0 hR hL hl
      dsimp only [fL_areReadings_S1] at hk
      refine lv_istore (lv' := [(6, .int (tw_I s0)), (0, .ref a1), (1, .int (tw_I x1)), (2, .int (tw_I x2)), (3, .int (tw_I x3)), (4, .int (tw_I x4)), (5, .int (tw_I x5)), (7, .int (tw_I x7))]) hC.1 hC.2.1 dL_areReadings_238 hl (by decide) rfl (fun ls hl => ?_)
      refine tw_iinc (lv' := [(7, .int (tw_I (tm_wr (x7 + 1)))), (6, .int (tw_I s0)), (0, .ref a1), (1, .int (tw_I x1)), (2, .int (tw_I x2)), (3, .int (tw_I x3)), (4, .int (tw_I x4)), (5, .int (tw_I x5))]) hC dL_areReadings_240 hl (k := 7) rfl (by decide) rfl (fun ls hl => ?_)
      refine lv_goto (tgt := 74) hC.1 hC.2.1 dL_areReadings_243 (by decide) ?_
      cases hk
      exact ih _ out hf H locs _ gx1 gx2 gx3 gx4 gx5 gs0 ((tm_wr_rg _)) hR hL (lv_sub hl [2, 3, 4, 5, 6, 7, 1, 0] rfl)
theorem sL_areReadings_L74 {l : Launch} {p : Program} {e : Env} {s : State} {m : MethodId} {args : Array Value} {below : List Frame} {meth : Method} {c : Code} (G : tw_G) (sz : Nat) (hC : tw_C G p s m args meth c RL cL_areReadings 9 (some .boolean)) (a1 : Nat)  (x1 : Int) (x2 : Int) (x3 : Int) (x4 : Int) (x5 : Int) (x6 : Int) (x7 : Int) (h : tm_H) (gx1 : tm_rg x1) (gx2 : tm_rg x2) (gx3 : tm_rg x3) (gx4 : tm_rg x4) (gx5 : tm_rg x5) (gx6 : tm_rg x6) (gx7 : tm_rg x7) (out : Int × tm_H) (hk : fL_areReadings_L74 a1 x1 x2 x3 x4 x5 x6 x7 h = some out) (H : Heap) (locs : List Loc) (ls : Array Slot) (hR : tw_Rel G sz h H) (hL : tw_L G locs) (hl : lv_has ls 9 [(0, .ref a1), (1, .int (tw_I x1)), (2, .int (tw_I x2)), (3, .int (tw_I x3)), (4, .int (tw_I x4)), (5, .int (tw_I x5)), (6, .int (tw_I x6)), (7, .int (tw_I x7))]) : W p l e rmL_areReadings s m args below meth c H locs 0 0 (MQ below (tw_Qi G sz out.1 out.2) args s 0 0 (tw_F G)) (F0 m 74 ls []) := by
  obtain ⟨k, hk⟩ := tm_wl_iff.mp hk
  exact sL_areReadings_S1 G sz hC a1  k (.inl ((x1, x2, x3, x4, x5, x6, x7, h))) out hk H locs ls gx1 gx2 gx3 gx4 gx5 gx6 gx7 hR hL hl
theorem sL_areReadings_L221 {l : Launch} {p : Program} {e : Env} {s : State} {m : MethodId} {args : Array Value} {below : List Frame} {meth : Method} {c : Code} (G : tw_G) (sz : Nat) (hC : tw_C G p s m args meth c RL cL_areReadings 9 (some .boolean)) (a1 : Nat)  (x1 : Int) (x2 : Int) (x3 : Int) (x4 : Int) (x5 : Int) (x7 : Int) (h : tm_H) (gx1 : tm_rg x1) (gx2 : tm_rg x2) (gx3 : tm_rg x3) (gx4 : tm_rg x4) (gx5 : tm_rg x5) (gx7 : tm_rg x7) (out : Int × tm_H) (hk : fL_areReadings_L221 a1 x1 x2 x3 x4 x5 x7 h = some out) (H : Heap) (locs : List Loc) (ls : Array Slot) (hR : tw_Rel G sz h H) (hL : tw_L G locs) (hl : lv_has ls 9 [(0, .ref a1), (1, .int (tw_I x1)), (2, .int (tw_I x2)), (3, .int (tw_I x3)), (4, .int (tw_I x4)), (5, .int (tw_I x5)), (7, .int (tw_I x7))]) : W p l e rmL_areReadings s m args below meth c H locs 0 0 (MQ below (tw_Qi G sz out.1 out.2) args s 0 0 (tw_F G)) (F0 m 221 ls []) := by
  obtain ⟨k, hk⟩ := tm_wl_iff.mp hk
  exact sL_areReadings_S1 G sz hC a1  k (.inr (.inl ((x1, x2, x3, x4, x5, x7, h)))) out hk H locs ls gx1 gx2 gx3 gx4 gx5 gx7 hR hL hl
theorem sL_areReadings_L237 {l : Launch} {p : Program} {e : Env} {s : State} {m : MethodId} {args : Array Value} {below : List Frame} {meth : Method} {c : Code} (G : tw_G) (sz : Nat) (hC : tw_C G p s m args meth c RL cL_areReadings 9 (some .boolean)) (a1 : Nat)  (x1 : Int) (x2 : Int) (x3 : Int) (x4 : Int) (x5 : Int) (x7 : Int) (h : tm_H) (gx1 : tm_rg x1) (gx2 : tm_rg x2) (gx3 : tm_rg x3) (gx4 : tm_rg x4) (gx5 : tm_rg x5) (gx7 : tm_rg x7) (out : Int × tm_H) (hk : fL_areReadings_L237 a1 x1 x2 x3 x4 x5 x7 h = some out) (H : Heap) (locs : List Loc) (ls : Array Slot) (hR : tw_Rel G sz h H) (hL : tw_L G locs) (hl : lv_has ls 9 [(0, .ref a1), (1, .int (tw_I x1)), (2, .int (tw_I x2)), (3, .int (tw_I x3)), (4, .int (tw_I x4)), (5, .int (tw_I x5)), (7, .int (tw_I x7))]) : W p l e rmL_areReadings s m args below meth c H locs 0 0 (MQ below (tw_Qi G sz out.1 out.2) args s 0 0 (tw_F G)) (F0 m 237 ls []) := by
  obtain ⟨k, hk⟩ := tm_wl_iff.mp hk
  exact sL_areReadings_S1 G sz hC a1  k (.inr (.inr (.inl ((x1, x2, x3, x4, x5, x7, h))))) out hk H locs ls gx1 gx2 gx3 gx4 gx5 gx7 hR hL hl
theorem sL_areReadings_L238 {l : Launch} {p : Program} {e : Env} {s : State} {m : MethodId} {args : Array Value} {below : List Frame} {meth : Method} {c : Code} (G : tw_G) (sz : Nat) (hC : tw_C G p s m args meth c RL cL_areReadings 9 (some .boolean)) (a1 : Nat)  (x1 : Int) (x2 : Int) (x3 : Int) (x4 : Int) (x5 : Int) (x7 : Int) (s0 : Int) (h : tm_H) (gx1 : tm_rg x1) (gx2 : tm_rg x2) (gx3 : tm_rg x3) (gx4 : tm_rg x4) (gx5 : tm_rg x5) (gx7 : tm_rg x7) (gs0 : tm_rg s0) (out : Int × tm_H) (hk : fL_areReadings_L238 a1 x1 x2 x3 x4 x5 x7 s0 h = some out) (H : Heap) (locs : List Loc) (ls : Array Slot) (hR : tw_Rel G sz h H) (hL : tw_L G locs) (hl : lv_has ls 9 [(0, .ref a1), (1, .int (tw_I x1)), (2, .int (tw_I x2)), (3, .int (tw_I x3)), (4, .int (tw_I x4)), (5, .int (tw_I x5)), (7, .int (tw_I x7))]) : W p l e rmL_areReadings s m args below meth c H locs 0 0 (MQ below (tw_Qi G sz out.1 out.2) args s 0 0 (tw_F G)) (F0 m 238 ls [.int (tw_I s0)]) := by
  obtain ⟨k, hk⟩ := tm_wl_iff.mp hk
  exact sL_areReadings_S1 G sz hC a1  k (.inr (.inr (.inr ((x1, x2, x3, x4, x5, x7, s0, h))))) out hk H locs ls gx1 gx2 gx3 gx4 gx5 gx7 gs0 hR hL hl
set_option maxRecDepth 100000 in
set_option maxHeartbeats 4000000 in
theorem sL_areReadings_L71 {l : Launch} {p : Program} {e : Env} {s : State} {m : MethodId} {args : Array Value} {below : List Frame} {meth : Method} {c : Code} (G : tw_G) (sz : Nat) (hC : tw_C G p s m args meth c RL cL_areReadings 9 (some .boolean)) (a1 : Nat)  (x1 : Int) (x2 : Int) (x3 : Int) (x4 : Int) (x5 : Int) (x6 : Int) (h : tm_H) (gx1 : tm_rg x1) (gx2 : tm_rg x2) (gx3 : tm_rg x3) (gx4 : tm_rg x4) (gx5 : tm_rg x5) (gx6 : tm_rg x6) (out : Int × tm_H) (hk : fL_areReadings_L71 a1 x1 x2 x3 x4 x5 x6 h = some out) (H : Heap) (locs : List Loc) (ls : Array Slot) (hR : tw_Rel G sz h H) (hL : tw_L G locs) (hl : lv_has ls 9 [(0, .ref a1), (1, .int (tw_I x1)), (2, .int (tw_I x2)), (3, .int (tw_I x3)), (4, .int (tw_I x4)), (5, .int (tw_I x5)), (6, .int (tw_I x6))]) : W p l e rmL_areReadings s m args below meth c H locs 0 0 (MQ below (tw_Qi G sz out.1 out.2) args s 0 0 (tw_F G)) (F0 m 71 ls []) := by
  unfold fL_areReadings_L71 at hk
  refine lv_iconst (v := tw_I 0) hC.1 hC.2.1 dL_areReadings_71 rfl ?_
  refine lv_istore (lv' := [(7, .int (tw_I 0)), (0, .ref a1), (1, .int (tw_I x1)), (2, .int (tw_I x2)), (3, .int (tw_I x3)), (4, .int (tw_I x4)), (5, .int (tw_I x5)), (6, .int (tw_I x6))]) hC.1 hC.2.1 dL_areReadings_72 hl (by decide) rfl (fun ls hl => ?_)
  exact sL_areReadings_L74 G sz hC a1 x1 x2 x3 x4 x5 x6 0 h gx1 gx2 gx3 gx4 gx5 gx6 ((tw_rgL rfl)) out hk H locs _ hR hL (lv_sub hl [1, 2, 3, 4, 5, 6, 7, 0] rfl)
set_option maxRecDepth 100000 in
set_option maxHeartbeats 4000000 in
theorem sL_areReadings_S3 {l : Launch} {p : Program} {e : Env} {s : State} {m : MethodId} {args : Array Value} {below : List Frame} {meth : Method} {c : Code} (G : tw_G) (sz : Nat) (hC : tw_C G p s m args meth c RL cL_areReadings 9 (some .boolean)) (a1 : Nat)  : ∀ (k : Nat) (st : (Int × Int × Int × Int × Int × Int × Int × tm_H) ⊕ (Int × Int × Int × Int × Int × Int × Int × Int × tm_H)) (out : Int × tm_H), tm_wit (fL_areReadings_S3 a1) k st = some out → match st with
    | .inl ((x1, x2, x3, x4, x5, x6, x7, h)) => ∀ (H : Heap) (locs : List Loc) (ls : Array Slot), tm_rg x1 → tm_rg x2 → tm_rg x3 → tm_rg x4 → tm_rg x5 → tm_rg x6 → tm_rg x7 → tw_Rel G sz h H → tw_L G locs → lv_has ls 9 [(0, .ref a1), (1, .int (tw_I x1)), (2, .int (tw_I x2)), (3, .int (tw_I x3)), (4, .int (tw_I x4)), (5, .int (tw_I x5)), (6, .int (tw_I x6)), (7, .int (tw_I x7))] → W p l e rmL_areReadings s m args below meth c H locs 0 0 (MQ below (tw_Qi G sz out.1 out.2) args s 0 0 (tw_F G)) (F0 m 18 ls [])
    | .inr ((x1, x2, x3, x4, x5, x7, x8, s0, h)) => ∀ (H : Heap) (locs : List Loc) (ls : Array Slot), tm_rg x1 → tm_rg x2 → tm_rg x3 → tm_rg x4 → tm_rg x5 → tm_rg x7 → tm_rg x8 → tm_rg s0 → tw_Rel G sz h H → tw_L G locs → lv_has ls 9 [(0, .ref a1), (1, .int (tw_I x1)), (2, .int (tw_I x2)), (3, .int (tw_I x3)), (4, .int (tw_I x4)), (5, .int (tw_I x5)), (7, .int (tw_I x7)), (8, .int (tw_I x8))] → W p l e rmL_areReadings s m args below meth c H locs 0 0 (MQ below (tw_Qi G sz out.1 out.2) args s 0 0 (tw_F G)) (F0 m 49 ls [.int (tw_I s0)]) := by
  intro k
  induction k with
  | zero =>
    intro st out hk
    exact absurd hk (by unfold tm_wit; exact fun z => by cases z)
  | succ k ih =>
    intro st out hk
    obtain ⟨X, hk, hf⟩ := tm_wit_succ hk
    obtain ⟨x1, x2, x3, x4, x5, x6, x7, h⟩ | ⟨x1, x2, x3, x4, x5, x7, x8, s0, h⟩ := st
    · intro H locs ls gx1 gx2 gx3 gx4 gx5 gx6 gx7 hR hL hl
      dsimp only [fL_areReadings_S3] at hk
      refine lv_iload hC.1 hC.2.1 dL_areReadings_18 (lv_at hl 7 rfl) ?_
      refine lv_bipush (v := tw_I 6) hC.1 hC.2.1 dL_areReadings_20 (by decide) ?_
      refine tw_cge (tgt := 71) hC hk gx7 ((tw_rgL rfl)) dL_areReadings_22 (by decide) (fun _ hk => ?_) (fun _ hk => ?_)
      · refine lv_iload hC.1 hC.2.1 dL_areReadings_25 (lv_at hl 6 rfl) ?_
        refine tw_zeq (tgt := 71) hC hk gx6 dL_areReadings_27 (by decide) (fun _ hk => ?_) (fun _ hk => ?_)
        · obtain ⟨r, hk2, hX⟩ := tm_out_some hk
          rw [hX] at hf
          have hr : r = out := Option.some.inj hf
          rw [hr] at hk2
          exact sL_areReadings_L71 G sz hC a1 x1 x2 x3 x4 x5 x6 h gx1 gx2 gx3 gx4 gx5 gx6 out hk2 H locs _ hR hL (lv_sub hl [0, 1, 2, 3, 4, 5, 6] rfl)
        · refine lv_aload_n hC.1 hC.2.1 dL_areReadings_30 rfl (lv_at hl 0 rfl) ?_
          refine lv_iload hC.1 hC.2.1 dL_areReadings_31 (lv_at hl 7 rfl) ?_
          refine lv_iload_n hC.1 hC.2.1 dL_areReadings_33 rfl (lv_at hl 1 rfl) ?_
          refine kL_marksIn hC hR hL hk gx7 gx1 mlL_92 ⟨by decide, by decide⟩ hl.1 (Nat.le_of_ble_eq_true rfl) ⟨Nat.zero_le _, Nat.zero_le _⟩ dL_areReadings_34 (fun v1 h1 H locs hR hL gv1 hk => ?_)
          refine lv_istore (lv' := [(8, .int (tw_I v1)), (0, .ref a1), (1, .int (tw_I x1)), (2, .int (tw_I x2)), (3, .int (tw_I x3)), (4, .int (tw_I x4)), (5, .int (tw_I x5)), (6, .int (tw_I x6)), (7, .int (tw_I x7))]) hC.1 hC.2.1 dL_areReadings_37 hl (by decide) rfl (fun ls hl => ?_)
          refine lv_iload hC.1 hC.2.1 dL_areReadings_39 (lv_at hl 0 rfl) ?_
          refine tw_zlt (tgt := 48) hC hk gv1 dL_areReadings_41 (by decide) (fun _ hk => ?_) (fun _ hk => ?_)
          · refine lv_iconst (v := tw_I 0) hC.1 hC.2.1 dL_areReadings_48 rfl ?_
            cases hk
            exact ih _ out hf H locs _ gx1 gx2 gx3 gx4 gx5 gx7 gv1 ((tw_rgL rfl)) hR hL (lv_sub hl [1, 2, 3, 4, 5, 6, 8, 0] rfl)
          · refine lv_iconst (v := tw_I 1) hC.1 hC.2.1 dL_areReadings_44 rfl ?_
            refine lv_goto (tgt := 49) hC.1 hC.2.1 dL_areReadings_45 (by decide) ?_
            cases hk
            exact ih _ out hf H locs _ gx1 gx2 gx3 gx4 gx5 gx7 gv1 ((tw_rgL rfl)) hR hL (lv_sub hl [1, 2, 3, 4, 5, 6, 8, 0] rfl)
      · obtain ⟨r, hk2, hX⟩ := tm_out_some hk
        rw [hX] at hf
        have hr : r = out := Option.some.inj hf
        rw [hr] at hk2
        exact sL_areReadings_L71 G sz hC a1 x1 x2 x3 x4 x5 x6 h gx1 gx2 gx3 gx4 gx5 gx6 out hk2 H locs _ hR hL (lv_sub hl [0, 1, 2, 3, 4, 5, 6] rfl)
    · intro H locs ls gx1 gx2 gx3 gx4 gx5 gx7 gx8 gs0 hR hL hl
      dsimp only [fL_areReadings_S3] at hk
      refine lv_istore (lv' := [(6, .int (tw_I s0)), (0, .ref a1), (1, .int (tw_I x1)), (2, .int (tw_I x2)), (3, .int (tw_I x3)), (4, .int (tw_I x4)), (5, .int (tw_I x5)), (7, .int (tw_I x7)), (8, .int (tw_I x8))]) hC.1 hC.2.1 dL_areReadings_49 hl (by decide) rfl (fun ls hl => ?_)
      refine lv_iload_n hC.1 hC.2.1 dL_areReadings_51 rfl (lv_at hl 2 rfl) ?_
      refine lv_iload hC.1 hC.2.1 dL_areReadings_52 (lv_at hl 8 rfl) ?_
      refine tw_iadd hC dL_areReadings_54 ?_
      refine lv_istore_n (lv' := [(1, .int (tw_I (tm_wr (x1 + x8)))), (6, .int (tw_I s0)), (0, .ref a1), (2, .int (tw_I x2)), (3, .int (tw_I x3)), (4, .int (tw_I x4)), (5, .int (tw_I x5)), (7, .int (tw_I x7)), (8, .int (tw_I x8))]) hC.1 hC.2.1 dL_areReadings_55 rfl hl (by decide) rfl (fun ls hl => ?_)
      refine lv_iload_n hC.1 hC.2.1 dL_areReadings_56 rfl (lv_at hl 3 rfl) ?_
      refine lv_aload_n hC.1 hC.2.1 dL_areReadings_57 rfl (lv_at hl 2 rfl) ?_
      refine lv_iload hC.1 hC.2.1 dL_areReadings_58 (lv_at hl 7 rfl) ?_
      refine kL_size hC hR hL hk gx7 mlL_88 ⟨by decide, by decide⟩ hl.1 (Nat.le_of_ble_eq_true rfl) ⟨Nat.zero_le _, Nat.zero_le _⟩ dL_areReadings_60 (fun v2 h2 H locs hR hL gv2 hk => ?_)
      refine tw_iadd hC dL_areReadings_63 ?_
      refine lv_istore_n (lv' := [(2, .int (tw_I (tm_wr (x2 + v2)))), (1, .int (tw_I (tm_wr (x1 + x8)))), (6, .int (tw_I s0)), (0, .ref a1), (3, .int (tw_I x3)), (4, .int (tw_I x4)), (5, .int (tw_I x5)), (7, .int (tw_I x7)), (8, .int (tw_I x8))]) hC.1 hC.2.1 dL_areReadings_64 rfl hl (by decide) rfl (fun ls hl => ?_)
      refine tw_iinc (lv' := [(7, .int (tw_I (tm_wr (x7 + 1)))), (2, .int (tw_I (tm_wr (x2 + v2)))), (1, .int (tw_I (tm_wr (x1 + x8)))), (6, .int (tw_I s0)), (0, .ref a1), (3, .int (tw_I x3)), (4, .int (tw_I x4)), (5, .int (tw_I x5)), (8, .int (tw_I x8))]) hC dL_areReadings_65 hl (k := 7) rfl (by decide) rfl (fun ls hl => ?_)
      refine lv_goto (tgt := 18) hC.1 hC.2.1 dL_areReadings_68 (by decide) ?_
      cases hk
      exact ih _ out hf H locs _ ((tm_wr_rg _)) ((tm_wr_rg _)) gx3 gx4 gx5 gs0 ((tm_wr_rg _)) hR hL (lv_sub hl [4, 2, 1, 5, 6, 7, 3, 0] rfl)
theorem sL_areReadings_L18 {l : Launch} {p : Program} {e : Env} {s : State} {m : MethodId} {args : Array Value} {below : List Frame} {meth : Method} {c : Code} (G : tw_G) (sz : Nat) (hC : tw_C G p s m args meth c RL cL_areReadings 9 (some .boolean)) (a1 : Nat)  (x1 : Int) (x2 : Int) (x3 : Int) (x4 : Int) (x5 : Int) (x6 : Int) (x7 : Int) (h : tm_H) (gx1 : tm_rg x1) (gx2 : tm_rg x2) (gx3 : tm_rg x3) (gx4 : tm_rg x4) (gx5 : tm_rg x5) (gx6 : tm_rg x6) (gx7 : tm_rg x7) (out : Int × tm_H) (hk : fL_areReadings_L18 a1 x1 x2 x3 x4 x5 x6 x7 h = some out) (H : Heap) (locs : List Loc) (ls : Array Slot) (hR : tw_Rel G sz h H) (hL : tw_L G locs) (hl : lv_has ls 9 [(0, .ref a1), (1, .int (tw_I x1)), (2, .int (tw_I x2)), (3, .int (tw_I x3)), (4, .int (tw_I x4)), (5, .int (tw_I x5)), (6, .int (tw_I x6)), (7, .int (tw_I x7))]) : W p l e rmL_areReadings s m args below meth c H locs 0 0 (MQ below (tw_Qi G sz out.1 out.2) args s 0 0 (tw_F G)) (F0 m 18 ls []) := by
  obtain ⟨k, hk⟩ := tm_wl_iff.mp hk
  exact sL_areReadings_S3 G sz hC a1  k (.inl ((x1, x2, x3, x4, x5, x6, x7, h))) out hk H locs ls gx1 gx2 gx3 gx4 gx5 gx6 gx7 hR hL hl
theorem sL_areReadings_L49 {l : Launch} {p : Program} {e : Env} {s : State} {m : MethodId} {args : Array Value} {below : List Frame} {meth : Method} {c : Code} (G : tw_G) (sz : Nat) (hC : tw_C G p s m args meth c RL cL_areReadings 9 (some .boolean)) (a1 : Nat)  (x1 : Int) (x2 : Int) (x3 : Int) (x4 : Int) (x5 : Int) (x7 : Int) (x8 : Int) (s0 : Int) (h : tm_H) (gx1 : tm_rg x1) (gx2 : tm_rg x2) (gx3 : tm_rg x3) (gx4 : tm_rg x4) (gx5 : tm_rg x5) (gx7 : tm_rg x7) (gx8 : tm_rg x8) (gs0 : tm_rg s0) (out : Int × tm_H) (hk : fL_areReadings_L49 a1 x1 x2 x3 x4 x5 x7 x8 s0 h = some out) (H : Heap) (locs : List Loc) (ls : Array Slot) (hR : tw_Rel G sz h H) (hL : tw_L G locs) (hl : lv_has ls 9 [(0, .ref a1), (1, .int (tw_I x1)), (2, .int (tw_I x2)), (3, .int (tw_I x3)), (4, .int (tw_I x4)), (5, .int (tw_I x5)), (7, .int (tw_I x7)), (8, .int (tw_I x8))]) : W p l e rmL_areReadings s m args below meth c H locs 0 0 (MQ below (tw_Qi G sz out.1 out.2) args s 0 0 (tw_F G)) (F0 m 49 ls [.int (tw_I s0)]) := by
  obtain ⟨k, hk⟩ := tm_wl_iff.mp hk
  exact sL_areReadings_S3 G sz hC a1  k (.inr ((x1, x2, x3, x4, x5, x7, x8, s0, h))) out hk H locs ls gx1 gx2 gx3 gx4 gx5 gx7 gx8 gs0 hR hL hl
set_option maxRecDepth 100000 in
set_option maxHeartbeats 4000000 in
theorem cL_areReadings_ok (l : Launch) (G : tw_G) (sz : Nat) (a1 : Nat)  (h : tm_H) (out : Int × tm_H) (hk : fL_areReadings a1 h = some out) : Met l yL_areReadings (tw_WS yL_areReadings cL_areReadings 9 (some .boolean)) rmL_areReadings (va_Pc [.ref a1] (tw_Pre G sz h)) (tw_Qi G sz out.1 out.2) 0 0 (tw_F G) := by
  refine tw_met (by decide +kernel) (Nat.le_of_ble_eq_true rfl) ?_
  intro p e s m args below meth c H ls hC hnm hR hl
  unfold fL_areReadings at hk
  have hl : lv_has ls 9 [(0, .ref a1)] := hl
  have hL : tw_L G [] := fun q z => by cases z
  generalize hlc : ([] : List Loc) = locs at hL ⊢
  refine lv_iconst (v := tw_I 0) hC.1 hC.2.1 dL_areReadings_0 rfl ?_
  refine lv_istore_n (lv' := [(1, .int (tw_I 0)), (0, .ref a1)]) hC.1 hC.2.1 dL_areReadings_1 rfl hl (by decide) rfl (fun ls hl => ?_)
  refine lv_iconst (v := tw_I 0) hC.1 hC.2.1 dL_areReadings_2 rfl ?_
  refine lv_istore_n (lv' := [(2, .int (tw_I 0)), (1, .int (tw_I 0)), (0, .ref a1)]) hC.1 hC.2.1 dL_areReadings_3 rfl hl (by decide) rfl (fun ls hl => ?_)
  refine lv_iconst (v := tw_I 0) hC.1 hC.2.1 dL_areReadings_4 rfl ?_
  refine lv_istore_n (lv' := [(3, .int (tw_I 0)), (2, .int (tw_I 0)), (1, .int (tw_I 0)), (0, .ref a1)]) hC.1 hC.2.1 dL_areReadings_5 rfl hl (by decide) rfl (fun ls hl => ?_)
  refine lv_iconst (v := tw_I 0) hC.1 hC.2.1 dL_areReadings_6 rfl ?_
  refine lv_istore (lv' := [(4, .int (tw_I 0)), (3, .int (tw_I 0)), (2, .int (tw_I 0)), (1, .int (tw_I 0)), (0, .ref a1)]) hC.1 hC.2.1 dL_areReadings_7 hl (by decide) rfl (fun ls hl => ?_)
  refine lv_iconst (v := tw_I 0) hC.1 hC.2.1 dL_areReadings_9 rfl ?_
  refine lv_istore (lv' := [(5, .int (tw_I 0)), (4, .int (tw_I 0)), (3, .int (tw_I 0)), (2, .int (tw_I 0)), (1, .int (tw_I 0)), (0, .ref a1)]) hC.1 hC.2.1 dL_areReadings_10 hl (by decide) rfl (fun ls hl => ?_)
  refine lv_iconst (v := tw_I 1) hC.1 hC.2.1 dL_areReadings_12 rfl ?_
  refine lv_istore (lv' := [(6, .int (tw_I 1)), (5, .int (tw_I 0)), (4, .int (tw_I 0)), (3, .int (tw_I 0)), (2, .int (tw_I 0)), (1, .int (tw_I 0)), (0, .ref a1)]) hC.1 hC.2.1 dL_areReadings_13 hl (by decide) rfl (fun ls hl => ?_)
  refine lv_iconst (v := tw_I 0) hC.1 hC.2.1 dL_areReadings_15 rfl ?_
  refine lv_istore (lv' := [(7, .int (tw_I 0)), (6, .int (tw_I 1)), (5, .int (tw_I 0)), (4, .int (tw_I 0)), (3, .int (tw_I 0)), (2, .int (tw_I 0)), (1, .int (tw_I 0)), (0, .ref a1)]) hC.1 hC.2.1 dL_areReadings_16 hl (by decide) rfl (fun ls hl => ?_)
  exact sL_areReadings_L18 G sz hC a1 0 0 0 0 0 1 0 h ((tw_rgL rfl)) ((tw_rgL rfl)) ((tw_rgL rfl)) ((tw_rgL rfl)) ((tw_rgL rfl)) ((tw_rgL rfl)) ((tw_rgL rfl)) out hk H locs _ hR hL (lv_sub hl [7, 6, 5, 4, 3, 2, 1, 0] rfl)
set_option maxRecDepth 100000 in
theorem kL_areReadings {l : Launch} {p : Program} {e : Env} {R : Room} {s : State} {m : MethodId} {args : Array Value} {below : List Frame} {meth : Method} {c : Code} {H : Heap} {locs : List Loc} {cells slots : Nat} {Q : State → Prop} {cc : ByteArray} {pc nL idx : Nat} {ls : Array Slot} {rest : List Value} {G : tw_G} {h : tm_H} {own : String} {ret : Option FieldType} {α : Type} {x : α} {sz : Nat} {a1 : Nat} (hC : tw_C G p s m args meth c own cc nL ret) (hR : tw_Rel G sz h H) (hL : tw_L G locs) {F : Int × tm_H → Option α} (hk : (fL_areReadings a1 h).bind F = some x)  (hl : tw_mL own idx yL_areReadings) (hRm : rmL_areReadings.frames + 1 ≤ R.frames ∧ 8 + (9 + 11) + rmL_areReadings.locals ≤ R.locals) (hsz : ls.size = nL) (hW : (rest.map fun v => v.category).sum ≤ 8) (hf : cells + 0 ≤ R.cells ∧ slots + 0 ≤ R.slots) (hdg : decode cc pc = .ok (.invokestatic idx, 3)) (kk : ∀ (r : Int) (h1 : tm_H) (H1 : Heap) (locs1 : List Loc), tw_Rel G sz h1 H1 → tw_L G locs1 → tm_rg r → F (r, h1) = some x → W p l e R s m args below meth c H1 locs1 (cells + 0) (slots + 0) Q (F0 m (pc + 3) ls (.int (tw_I r) :: rest))) : W p l e R s m args below meth c H locs cells slots Q (F0 m pc ls (.ref a1 :: rest)) := by
  obtain ⟨r, hr, hF⟩ := Option.bind_eq_some_iff.mp hk
  exact tw_backi (tw_runS hC hR (cL_areReadings_ok l G sz a1  h r hr) (n := 1) ⟨tw_in_TB 619 (by decide +kernel) rfl, tw_in_TB 8 (by decide +kernel) rfl, by decide +kernel⟩ (tw_in_TB 618 (by decide +kernel) rfl) hl ⟨rfl, rfl⟩ hRm rfl hsz rfl hW hdg hf) hL (fun H1 locs1 a b g => kk r.1 r.2 H1 locs1 a b g hF)
def rmL_areReasons : Room := { frames := 8, cells := 0, slots := 0, locals := 184 }
set_option maxRecDepth 100000 in
set_option maxHeartbeats 4000000 in
theorem sL_areReasons_S0 {l : Launch} {p : Program} {e : Env} {s : State} {m : MethodId} {args : Array Value} {below : List Frame} {meth : Method} {c : Code} (G : tw_G) (sz : Nat) (hC : tw_C G p s m args meth c RL cL_areReasons 9 (some .boolean)) (a1 : Nat) (a2 : Int) (ga2 : tm_rg a2) : ∀ (k : Nat) (st : (Int × Int × Int × tm_H) ⊕ (Int × Int × Int × Int × Int × tm_H) ⊕ (Int × Int × Int × Int × Int × Int × tm_H) ⊕ (Int × Int × Int × Int × Int × Int × tm_H) ⊕ (Int × Int × Int × Int × Int × Int × tm_H) ⊕ (Int × Int × Int × Int × Int × Int × tm_H) ⊕ (Int × Int × Int × Int × Int × Int × tm_H) ⊕ (Int × Int × Int × Int × tm_H) ⊕ (Int × Int × Int × Int × tm_H) ⊕ (Int × Int × Int × Int × Int × tm_H) ⊕ (Int × Int × Int × Int × tm_H) ⊕ (Int × Int × Int × tm_H) ⊕ (Int × Int × Int × Int × tm_H) ⊕ (Int × Int × tm_H) ⊕ (Int × Int × Int × tm_H)) (out : Int × tm_H), tm_wit (fL_areReasons_S0 a1 a2) k st = some out → match st with
    | .inl ((x2, x3, x4, h)) => ∀ (H : Heap) (locs : List Loc) (ls : Array Slot), tm_rg x2 → tm_rg x3 → tm_rg x4 → tw_Rel G sz h H → tw_L G locs → lv_has ls 9 [(0, .ref a1), (1, .int (tw_I a2)), (2, .int (tw_I x2)), (3, .int (tw_I x3)), (4, .int (tw_I x4))] → W p l e rmL_areReasons s m args below meth c H locs 0 0 (MQ below (tw_Qi G sz out.1 out.2) args s 0 0 (tw_F G)) (F0 m 11 ls [])
    | .inr (.inl ((x2, x3, x4, x5, x6, h))) => ∀ (H : Heap) (locs : List Loc) (ls : Array Slot), tm_rg x2 → tm_rg x3 → tm_rg x4 → tm_rg x5 → tm_rg x6 → tw_Rel G sz h H → tw_L G locs → lv_has ls 9 [(0, .ref a1), (1, .int (tw_I a2)), (2, .int (tw_I x2)), (3, .int (tw_I x3)), (4, .int (tw_I x4)), (5, .int (tw_I x5)), (6, .int (tw_I x6))] → W p l e rmL_areReasons s m args below meth c H locs 0 0 (MQ below (tw_Qi G sz out.1 out.2) args s 0 0 (tw_F G)) (F0 m 31 ls [])
    | .inr (.inr (.inl ((x3, x4, x6, x7, s0, s1, h)))) => ∀ (H : Heap) (locs : List Loc) (ls : Array Slot), tm_rg x3 → tm_rg x4 → tm_rg x6 → tm_rg x7 → tm_rg s0 → tm_rg s1 → tw_Rel G sz h H → tw_L G locs → lv_has ls 9 [(0, .ref a1), (1, .int (tw_I a2)), (3, .int (tw_I x3)), (4, .int (tw_I x4)), (6, .int (tw_I x6)), (7, .int (tw_I x7))] → W p l e rmL_areReasons s m args below meth c H locs 0 0 (MQ below (tw_Qi G sz out.1 out.2) args s 0 0 (tw_F G)) (F0 m 64 ls [.int (tw_I s1), .int (tw_I s0)])
    | .inr (.inr (.inr (.inl ((x3, x4, x5, x6, x7, x8, h))))) => ∀ (H : Heap) (locs : List Loc) (ls : Array Slot), tm_rg x3 → tm_rg x4 → tm_rg x5 → tm_rg x6 → tm_rg x7 → tm_rg x8 → tw_Rel G sz h H → tw_L G locs → lv_has ls 9 [(0, .ref a1), (1, .int (tw_I a2)), (3, .int (tw_I x3)), (4, .int (tw_I x4)), (5, .int (tw_I x5)), (6, .int (tw_I x6)), (7, .int (tw_I x7)), (8, .int (tw_I x8))] → W p l e rmL_areReasons s m args below meth c H locs 0 0 (MQ below (tw_Qi G sz out.1 out.2) args s 0 0 (tw_F G)) (F0 m 130 ls [])
    | .inr (.inr (.inr (.inr (.inl ((x3, x4, x5, x6, x7, x8, h)))))) => ∀ (H : Heap) (locs : List Loc) (ls : Array Slot), tm_rg x3 → tm_rg x4 → tm_rg x5 → tm_rg x6 → tm_rg x7 → tm_rg x8 → tw_Rel G sz h H → tw_L G locs → lv_has ls 9 [(0, .ref a1), (1, .int (tw_I a2)), (3, .int (tw_I x3)), (4, .int (tw_I x4)), (5, .int (tw_I x5)), (6, .int (tw_I x6)), (7, .int (tw_I x7)), (8, .int (tw_I x8))] → W p l e rmL_areReasons s m args below meth c H locs 0 0 (MQ below (tw_Qi G sz out.1 out.2) args s 0 0 (tw_F G)) (F0 m 147 ls [])
    | .inr (.inr (.inr (.inr (.inr (.inl ((x3, x4, x5, x6, x7, x8, h))))))) => ∀ (H : Heap) (locs : List Loc) (ls : Array Slot), tm_rg x3 → tm_rg x4 → tm_rg x5 → tm_rg x6 → tm_rg x7 → tm_rg x8 → tw_Rel G sz h H → tw_L G locs → lv_has ls 9 [(0, .ref a1), (1, .int (tw_I a2)), (3, .int (tw_I x3)), (4, .int (tw_I x4)), (5, .int (tw_I x5)), (6, .int (tw_I x6)), (7, .int (tw_I x7)), (8, .int (tw_I x8))] → W p l e rmL_areReasons s m args below meth c H locs 0 0 (MQ below (tw_Qi G sz out.1 out.2) args s 0 0 (tw_F G)) (F0 m 164 ls [])
    | .inr (.inr (.inr (.inr (.inr (.inr (.inl ((x3, x4, x5, x6, x7, x8, h)))))))) => ∀ (H : Heap) (locs : List Loc) (ls : Array Slot), tm_rg x3 → tm_rg x4 → tm_rg x5 → tm_rg x6 → tm_rg x7 → tm_rg x8 → tw_Rel G sz h H → tw_L G locs → lv_has ls 9 [(0, .ref a1), (1, .int (tw_I a2)), (3, .int (tw_I x3)), (4, .int (tw_I x4)), (5, .int (tw_I x5)), (6, .int (tw_I x6)), (7, .int (tw_I x7)), (8, .int (tw_I x8))] → W p l e rmL_areReasons s m args below meth c H locs 0 0 (MQ below (tw_Qi G sz out.1 out.2) args s 0 0 (tw_F G)) (F0 m 182 ls [])
    | .inr (.inr (.inr (.inr (.inr (.inr (.inr (.inl ((x3, x4, x5, x6, h))))))))) => ∀ (H : Heap) (locs : List Loc) (ls : Array Slot), tm_rg x3 → tm_rg x4 → tm_rg x5 → tm_rg x6 → tw_Rel G sz h H → tw_L G locs → lv_has ls 9 [(0, .ref a1), (1, .int (tw_I a2)), (3, .int (tw_I x3)), (4, .int (tw_I x4)), (5, .int (tw_I x5)), (6, .int (tw_I x6))] → W p l e rmL_areReasons s m args below meth c H locs 0 0 (MQ below (tw_Qi G sz out.1 out.2) args s 0 0 (tw_F G)) (F0 m 217 ls [])
    | .inr (.inr (.inr (.inr (.inr (.inr (.inr (.inr (.inl ((x3, x4, x5, x6, h)))))))))) => ∀ (H : Heap) (locs : List Loc) (ls : Array Slot), tm_rg x3 → tm_rg x4 → tm_rg x5 → tm_rg x6 → tw_Rel G sz h H → tw_L G locs → lv_has ls 9 [(0, .ref a1), (1, .int (tw_I a2)), (3, .int (tw_I x3)), (4, .int (tw_I x4)), (5, .int (tw_I x5)), (6, .int (tw_I x6))] → W p l e rmL_areReasons s m args below meth c H locs 0 0 (MQ below (tw_Qi G sz out.1 out.2) args s 0 0 (tw_F G)) (F0 m 221 ls [])
    | .inr (.inr (.inr (.inr (.inr (.inr (.inr (.inr (.inr (.inl ((x3, x4, x5, x6, s0, h))))))))))) => ∀ (H : Heap) (locs : List Loc) (ls : Array Slot), tm_rg x3 → tm_rg x4 → tm_rg x5 → tm_rg x6 → tm_rg s0 → tw_Rel G sz h H → tw_L G locs → lv_has ls 9 [(0, .ref a1), (1, .int (tw_I a2)), (3, .int (tw_I x3)), (4, .int (tw_I x4)), (5, .int (tw_I x5)), (6, .int (tw_I x6))] → W p l e rmL_areReasons s m args below meth c H locs 0 0 (MQ below (tw_Qi G sz out.1 out.2) args s 0 0 (tw_F G)) (F0 m 222 ls [.int (tw_I s0)])
    | .inr (.inr (.inr (.inr (.inr (.inr (.inr (.inr (.inr (.inr (.inl ((x2, x3, x4, x5, h)))))))))))) => ∀ (H : Heap) (locs : List Loc) (ls : Array Slot), tm_rg x2 → tm_rg x3 → tm_rg x4 → tm_rg x5 → tw_Rel G sz h H → tw_L G locs → lv_has ls 9 [(0, .ref a1), (1, .int (tw_I a2)), (2, .int (tw_I x2)), (3, .int (tw_I x3)), (4, .int (tw_I x4)), (5, .int (tw_I x5))] → W p l e rmL_areReasons s m args below meth c H locs 0 0 (MQ below (tw_Qi G sz out.1 out.2) args s 0 0 (tw_F G)) (F0 m 229 ls [])
    | .inr (.inr (.inr (.inr (.inr (.inr (.inr (.inr (.inr (.inr (.inr (.inl ((x3, x4, s0, h))))))))))))) => ∀ (H : Heap) (locs : List Loc) (ls : Array Slot), tm_rg x3 → tm_rg x4 → tm_rg s0 → tw_Rel G sz h H → tw_L G locs → lv_has ls 9 [(0, .ref a1), (1, .int (tw_I a2)), (3, .int (tw_I x3)), (4, .int (tw_I x4))] → W p l e rmL_areReasons s m args below meth c H locs 0 0 (MQ below (tw_Qi G sz out.1 out.2) args s 0 0 (tw_F G)) (F0 m 261 ls [.int (tw_I s0)])
    | .inr (.inr (.inr (.inr (.inr (.inr (.inr (.inr (.inr (.inr (.inr (.inr (.inl ((x3, x4, s0, s1, h)))))))))))))) => ∀ (H : Heap) (locs : List Loc) (ls : Array Slot), tm_rg x3 → tm_rg x4 → tm_rg s0 → tm_rg s1 → tw_Rel G sz h H → tw_L G locs → lv_has ls 9 [(0, .ref a1), (1, .int (tw_I a2)), (3, .int (tw_I x3)), (4, .int (tw_I x4))] → W p l e rmL_areReasons s m args below meth c H locs 0 0 (MQ below (tw_Qi G sz out.1 out.2) args s 0 0 (tw_F G)) (F0 m 262 ls [.int (tw_I s1), .int (tw_I s0)])
    | .inr (.inr (.inr (.inr (.inr (.inr (.inr (.inr (.inr (.inr (.inr (.inr (.inr (.inl ((x3, x4, h))))))))))))))) => ∀ (H : Heap) (locs : List Loc) (ls : Array Slot), tm_rg x3 → tm_rg x4 → tw_Rel G sz h H → tw_L G locs → lv_has ls 9 [(0, .ref a1), (1, .int (tw_I a2)), (3, .int (tw_I x3)), (4, .int (tw_I x4))] → W p l e rmL_areReasons s m args below meth c H locs 0 0 (MQ below (tw_Qi G sz out.1 out.2) args s 0 0 (tw_F G)) (F0 m 269 ls [])
    | .inr (.inr (.inr (.inr (.inr (.inr (.inr (.inr (.inr (.inr (.inr (.inr (.inr (.inr ((x3, x4, s0, h))))))))))))))) => ∀ (H : Heap) (locs : List Loc) (ls : Array Slot), tm_rg x3 → tm_rg x4 → tm_rg s0 → tw_Rel G sz h H → tw_L G locs → lv_has ls 9 [(0, .ref a1), (1, .int (tw_I a2)), (3, .int (tw_I x3)), (4, .int (tw_I x4))] → W p l e rmL_areReasons s m args below meth c H locs 0 0 (MQ below (tw_Qi G sz out.1 out.2) args s 0 0 (tw_F G)) (F0 m 270 ls [.int (tw_I s0)]) := by
  intro k
  induction k with
  | zero =>
    intro st out hk
    exact absurd hk (by unfold tm_wit; exact fun z => by cases z)
  | succ k ih =>
    intro st out hk
    obtain ⟨X, hk, hf⟩ := tm_wit_succ hk
    obtain ⟨x2, x3, x4, h⟩ | ⟨x2, x3, x4, x5, x6, h⟩ | ⟨x3, x4, x6, x7, s0, s1, h⟩ | ⟨x3, x4, x5, x6, x7, x8, h⟩ | ⟨x3, x4, x5, x6, x7, x8, h⟩ | ⟨x3, x4, x5, x6, x7, x8, h⟩ | ⟨x3, x4, x5, x6, x7, x8, h⟩ | ⟨x3, x4, x5, x6, h⟩ | ⟨x3, x4, x5, x6, h⟩ | ⟨x3, x4, x5, x6, s0, h⟩ | ⟨x2, x3, x4, x5, h⟩ | ⟨x3, x4, s0, h⟩ | ⟨x3, x4, s0, s1, h⟩ | ⟨x3, x4, h⟩ | ⟨x3, x4, s0, h⟩ := st
    · intro H locs ls gx2 gx3 gx4 hR hL hl
      dsimp only [fL_areReasons_S0] at hk
      refine lv_iload hC.1 hC.2.1 dL_areReasons_11 (lv_at hl 4 rfl) ?_
      refine lv_aload_n hC.1 hC.2.1 dL_areReasons_13 rfl (lv_at hl 0 rfl) ?_
      refine lv_iconst (v := tw_I 2) hC.1 hC.2.1 dL_areReasons_14 rfl ?_
      refine kX8_count hC hR hL hk ((tw_rgL rfl)) mlL_13 ⟨by decide, by decide⟩ hl.1 (Nat.le_of_ble_eq_true rfl) ⟨Nat.zero_le _, Nat.zero_le _⟩ dL_areReasons_15 (fun v2 h2 H locs hR hL gv2 hk => ?_)
      refine tw_cge (tgt := 277) hC hk gx4 gv2 dL_areReasons_18 (by decide) (fun _ hk => ?_) (fun _ hk => ?_)
      · refine lv_iload_n hC.1 hC.2.1 dL_areReasons_21 rfl (lv_at hl 2 rfl) ?_
        refine tw_zeq (tgt := 277) hC hk gx2 dL_areReasons_22 (by decide) (fun _ hk => ?_) (fun _ hk => ?_)
        · refine lv_iload_n hC.1 hC.2.1 dL_areReasons_277 rfl (lv_at hl 2 rfl) ?_
          obtain ⟨z, hz, hk⟩ := Option.bind_eq_some_iff.mp hk
          cases hk
          cases hf
          exact tw_zret hC hR hL hz rfl dL_areReasons_278
        · refine lv_iconst (v := tw_I 0) hC.1 hC.2.1 dL_areReasons_25 rfl ?_
          refine lv_istore (lv' := [(5, .int (tw_I 0)), (0, .ref a1), (1, .int (tw_I a2)), (2, .int (tw_I x2)), (3, .int (tw_I x3)), (4, .int (tw_I x4))]) hC.1 hC.2.1 dL_areReasons_26 hl (by decide) rfl (fun ls hl => ?_)
          refine lv_iconst (v := tw_I 0) hC.1 hC.2.1 dL_areReasons_28 rfl ?_
          refine lv_istore (lv' := [(6, .int (tw_I 0)), (5, .int (tw_I 0)), (0, .ref a1), (1, .int (tw_I a2)), (2, .int (tw_I x2)), (3, .int (tw_I x3)), (4, .int (tw_I x4))]) hC.1 hC.2.1 dL_areReasons_29 hl (by decide) rfl (fun ls hl => ?_)
          cases hk
          exact ih _ out hf H locs _ gx2 gx3 gx4 ((tw_rgL rfl)) ((tw_rgL rfl)) hR hL (lv_sub hl [2, 3, 4, 5, 6, 1, 0] rfl)
      · refine lv_iload_n hC.1 hC.2.1 dL_areReasons_277 rfl (lv_at hl 2 rfl) ?_
        obtain ⟨z, hz, hk⟩ := Option.bind_eq_some_iff.mp hk
        cases hk
        cases hf
        exact tw_zret hC hR hL hz rfl dL_areReasons_278
    · intro H locs ls gx2 gx3 gx4 gx5 gx6 hR hL hl
      dsimp only [fL_areReasons_S0] at hk
      refine lv_iload hC.1 hC.2.1 dL_areReasons_31 (lv_at hl 6 rfl) ?_
      refine lv_iload_n hC.1 hC.2.1 dL_areReasons_33 rfl (lv_at hl 3 rfl) ?_
      refine tw_cge (tgt := 229) hC hk gx6 gx3 dL_areReasons_34 (by decide) (fun _ hk => ?_) (fun _ hk => ?_)
      · refine lv_iload_n hC.1 hC.2.1 dL_areReasons_37 rfl (lv_at hl 2 rfl) ?_
        refine tw_zeq (tgt := 229) hC hk gx2 dL_areReasons_38 (by decide) (fun _ hk => ?_) (fun _ hk => ?_)
        · cases hk
          exact ih _ out hf H locs _ gx2 gx3 gx4 gx5 hR hL (lv_sub hl [0, 1, 2, 3, 4, 5] rfl)
        · refine lv_aload_n hC.1 hC.2.1 dL_areReasons_41 rfl (lv_at hl 0 rfl) ?_
          refine lv_iload_n hC.1 hC.2.1 dL_areReasons_42 rfl (lv_at hl 1 rfl) ?_
          refine lv_iload hC.1 hC.2.1 dL_areReasons_43 (lv_at hl 6 rfl) ?_
          refine lv_iload hC.1 hC.2.1 dL_areReasons_45 (lv_at hl 4 rfl) ?_
          refine kX8_why hC hR hL hk ga2 gx6 gx4 mlL_79 ⟨by decide, by decide⟩ hl.1 (Nat.le_of_ble_eq_true rfl) ⟨Nat.zero_le _, Nat.zero_le _⟩ dL_areReasons_47 (fun v3 h3 H locs hR hL gv3 hk => ?_)
          refine lv_istore (lv' := [(7, .int (tw_I v3)), (0, .ref a1), (1, .int (tw_I a2)), (2, .int (tw_I x2)), (3, .int (tw_I x3)), (4, .int (tw_I x4)), (5, .int (tw_I x5)), (6, .int (tw_I x6))]) hC.1 hC.2.1 dL_areReasons_50 hl (by decide) rfl (fun ls hl => ?_)
          refine lv_iload hC.1 hC.2.1 dL_areReasons_52 (lv_at hl 6 rfl) ?_
          refine lv_iload hC.1 hC.2.1 dL_areReasons_54 (lv_at hl 0 rfl) ?_
          refine tw_zne (tgt := 63) hC hk gv3 dL_areReasons_56 (by decide) (fun _ hk => ?_) (fun _ hk => ?_)
          · refine lv_iconst (v := tw_I 1) hC.1 hC.2.1 dL_areReasons_59 rfl ?_
            refine lv_goto (tgt := 64) hC.1 hC.2.1 dL_areReasons_60 (by decide) ?_
            cases hk
            exact ih _ out hf H locs _ gx3 gx4 gx6 gv3 gx5 ((tw_rgL rfl)) hR hL (lv_sub hl [1, 2, 4, 5, 7, 0] rfl)
          · refine lv_iconst (v := tw_I 0) hC.1 hC.2.1 dL_areReasons_63 rfl ?_
            cases hk
            exact ih _ out hf H locs _ gx3 gx4 gx6 gv3 gx5 ((tw_rgL rfl)) hR hL (lv_sub hl [1, 2, 4, 5, 7, 0] rfl)
      · cases hk
        exact ih _ out hf H locs _ gx2 gx3 gx4 gx5 hR hL (lv_sub hl [0, 1, 2, 3, 4, 5] rfl)
    · intro H locs ls gx3 gx4 gx6 gx7 gs0 gs1 hR hL hl
      dsimp only [fL_areReasons_S0] at hk
      refine tw_iadd hC dL_areReasons_64 ?_
      refine lv_istore (lv' := [(5, .int (tw_I (tm_wr (s0 + s1)))), (0, .ref a1), (1, .int (tw_I a2)), (3, .int (tw_I x3)), (4, .int (tw_I x4)), (6, .int (tw_I x6)), (7, .int (tw_I x7))]) hC.1 hC.2.1 dL_areReasons_65 hl (by decide) rfl (fun ls hl => ?_)
      refine lv_aload_n hC.1 hC.2.1 dL_areReasons_67 rfl (lv_at hl 1 rfl) ?_
      refine lv_iload_n hC.1 hC.2.1 dL_areReasons_68 rfl (lv_at hl 2 rfl) ?_
      refine lv_iload hC.1 hC.2.1 dL_areReasons_69 (lv_at hl 5 rfl) ?_
      refine lv_iconst (v := tw_I 1) hC.1 hC.2.1 dL_areReasons_71 rfl ?_
      refine kX8_place hC hR hL hk ga2 gx6 ((tw_rgL rfl)) mlL_19 ⟨by decide, by decide⟩ hl.1 (Nat.le_of_ble_eq_true rfl) ⟨Nat.zero_le _, Nat.zero_le _⟩ dL_areReasons_72 (fun v4 h4 H locs hR hL gv4 hk => ?_)
      refine lv_istore (lv' := [(8, .int (tw_I v4)), (5, .int (tw_I (tm_wr (s0 + s1)))), (0, .ref a1), (1, .int (tw_I a2)), (3, .int (tw_I x3)), (4, .int (tw_I x4)), (6, .int (tw_I x6)), (7, .int (tw_I x7))]) hC.1 hC.2.1 dL_areReasons_75 hl (by decide) rfl (fun ls hl => ?_)
      refine lv_iload hC.1 hC.2.1 dL_areReasons_77 (lv_at hl 7 rfl) ?_
      refine tw_zlt (tgt := 221) hC hk gx7 dL_areReasons_79 (by decide) (fun _ hk => ?_) (fun _ hk => ?_)
      · cases hk
        exact ih _ out hf H locs _ gx3 gx4 ((tm_wr_rg _)) gx6 hR hL (lv_sub hl [2, 3, 4, 5, 1, 6] rfl)
      · refine lv_iload hC.1 hC.2.1 dL_areReasons_82 (lv_at hl 7 rfl) ?_
        refine lv_bipush (v := tw_I 6) hC.1 hC.2.1 dL_areReasons_84 (by decide) ?_
        refine tw_cge (tgt := 221) hC hk gx7 ((tw_rgL rfl)) dL_areReasons_86 (by decide) (fun _ hk => ?_) (fun _ hk => ?_)
        · refine lv_iload hC.1 hC.2.1 dL_areReasons_89 (lv_at hl 7 rfl) ?_
          refine lv_iconst (v := tw_I 2) hC.1 hC.2.1 dL_areReasons_91 rfl ?_
          refine tw_cne (tgt := 130) hC hk gx7 ((tw_rgL rfl)) dL_areReasons_92 (by decide) (fun _ hk => ?_) (fun _ hk => ?_)
          · refine lv_iload hC.1 hC.2.1 dL_areReasons_95 (lv_at hl 0 rfl) ?_
            refine lv_iload hC.1 hC.2.1 dL_areReasons_97 (lv_at hl 5 rfl) ?_
            refine tw_ceq (tgt := 221) hC hk gv4 gx4 dL_areReasons_99 (by decide) (fun _ hk => ?_) (fun _ hk => ?_)
            · cases hk
              exact ih _ out hf H locs _ gx3 gx4 ((tm_wr_rg _)) gx6 hR hL (lv_sub hl [2, 3, 4, 5, 1, 6] rfl)
            · refine lv_aload_n hC.1 hC.2.1 dL_areReasons_102 rfl (lv_at hl 2 rfl) ?_
              refine lv_iload_n hC.1 hC.2.1 dL_areReasons_103 rfl (lv_at hl 3 rfl) ?_
              refine lv_iload hC.1 hC.2.1 dL_areReasons_104 (lv_at hl 6 rfl) ?_
              refine lv_iconst (v := tw_I 2) hC.1 hC.2.1 dL_areReasons_106 rfl ?_
              refine kX8_place hC hR hL hk ga2 gx6 ((tw_rgL rfl)) mlL_19 ⟨by decide, by decide⟩ hl.1 (Nat.le_of_ble_eq_true rfl) ⟨Nat.zero_le _, Nat.zero_le _⟩ dL_areReasons_107 (fun v5 h5 H locs hR hL gv5 hk => ?_)
              refine tw_zne (tgt := 221) hC hk gv5 dL_areReasons_110 (by decide) (fun _ hk => ?_) (fun _ hk => ?_)
              · refine lv_aload_n hC.1 hC.2.1 dL_areReasons_113 rfl (lv_at hl 2 rfl) ?_
                refine lv_iload hC.1 hC.2.1 dL_areReasons_114 (lv_at hl 0 rfl) ?_
                refine lv_iconst (v := tw_I 0) hC.1 hC.2.1 dL_areReasons_116 rfl ?_
                refine kX8_term hC hR hL hk gv4 ((tw_rgL rfl)) mlL_23 ⟨by decide, by decide⟩ hl.1 (Nat.le_of_ble_eq_true rfl) ⟨Nat.zero_le _, Nat.zero_le _⟩ dL_areReasons_117 (fun v6 h6 H locs hR hL gv6 hk => ?_)
                refine lv_aload_n hC.1 hC.2.1 dL_areReasons_120 rfl (lv_at hl 2 rfl) ?_
                refine lv_iload hC.1 hC.2.1 dL_areReasons_121 (lv_at hl 5 rfl) ?_
                refine lv_iconst (v := tw_I 0) hC.1 hC.2.1 dL_areReasons_123 rfl ?_
                refine kX8_term hC hR hL hk gx4 ((tw_rgL rfl)) mlL_23 ⟨by decide, by decide⟩ hl.1 (Nat.le_of_ble_eq_true rfl) ⟨Nat.zero_le _, Nat.zero_le _⟩ dL_areReasons_124 (fun v7 h7 H locs hR hL gv7 hk => ?_)
                refine tw_cle (tgt := 221) hC hk gv6 gv7 dL_areReasons_127 (by decide) (fun _ hk => ?_) (fun _ hk => ?_)
                · cases hk
                  exact ih _ out hf H locs _ gx3 gx4 ((tm_wr_rg _)) gx6 gx7 gv4 hR hL (lv_sub hl [2, 3, 4, 5, 1, 6, 7, 0] rfl)
                · cases hk
                  exact ih _ out hf H locs _ gx3 gx4 ((tm_wr_rg _)) gx6 hR hL (lv_sub hl [2, 3, 4, 5, 1, 6] rfl)
              · cases hk
                exact ih _ out hf H locs _ gx3 gx4 ((tm_wr_rg _)) gx6 hR hL (lv_sub hl [2, 3, 4, 5, 1, 6] rfl)
          · cases hk
            exact ih _ out hf H locs _ gx3 gx4 ((tm_wr_rg _)) gx6 gx7 gv4 hR hL (lv_sub hl [2, 3, 4, 5, 1, 6, 7, 0] rfl)
        · cases hk
          exact ih _ out hf H locs _ gx3 gx4 ((tm_wr_rg _)) gx6 hR hL (lv_sub hl [2, 3, 4, 5, 1, 6] rfl)
    · intro H locs ls gx3 gx4 gx5 gx6 gx7 gx8 hR hL hl
      dsimp only [fL_areReasons_S0] at hk
      refine lv_iload hC.1 hC.2.1 dL_areReasons_130 (lv_at hl 6 rfl) ?_
      refine lv_iconst (v := tw_I 3) hC.1 hC.2.1 dL_areReasons_132 rfl ?_
      refine tw_cne (tgt := 147) hC hk gx7 ((tw_rgL rfl)) dL_areReasons_133 (by decide) (fun _ hk => ?_) (fun _ hk => ?_)
      · refine lv_aload_n hC.1 hC.2.1 dL_areReasons_136 rfl (lv_at hl 0 rfl) ?_
        refine lv_iload_n hC.1 hC.2.1 dL_areReasons_137 rfl (lv_at hl 1 rfl) ?_
        refine lv_iload hC.1 hC.2.1 dL_areReasons_138 (lv_at hl 5 rfl) ?_
        refine lv_iconst (v := tw_I 2) hC.1 hC.2.1 dL_areReasons_140 rfl ?_
        refine kX8_place hC hR hL hk ga2 gx6 ((tw_rgL rfl)) mlL_19 ⟨by decide, by decide⟩ hl.1 (Nat.le_of_ble_eq_true rfl) ⟨Nat.zero_le _, Nat.zero_le _⟩ dL_areReasons_141 (fun v8 h8 H locs hR hL gv8 hk => ?_)
        refine tw_zle (tgt := 221) hC hk gv8 dL_areReasons_144 (by decide) (fun _ hk => ?_) (fun _ hk => ?_)
        · cases hk
          exact ih _ out hf H locs _ gx3 gx4 gx5 gx6 gx7 gx8 hR hL (lv_sub hl [0, 1, 2, 3, 4, 5, 6, 7] rfl)
        · cases hk
          exact ih _ out hf H locs _ gx3 gx4 gx5 gx6 hR hL (lv_sub hl [0, 1, 2, 3, 4, 5] rfl)
      · cases hk
        exact ih _ out hf H locs _ gx3 gx4 gx5 gx6 gx7 gx8 hR hL (lv_sub hl [0, 1, 2, 3, 4, 5, 6, 7] rfl)
    · intro H locs ls gx3 gx4 gx5 gx6 gx7 gx8 hR hL hl
      dsimp only [fL_areReasons_S0] at hk
      refine lv_iload hC.1 hC.2.1 dL_areReasons_147 (lv_at hl 6 rfl) ?_
      refine lv_iconst (v := tw_I 4) hC.1 hC.2.1 dL_areReasons_149 rfl ?_
      refine tw_cne (tgt := 164) hC hk gx7 ((tw_rgL rfl)) dL_areReasons_150 (by decide) (fun _ hk => ?_) (fun _ hk => ?_)
      · refine lv_aload_n hC.1 hC.2.1 dL_areReasons_153 rfl (lv_at hl 0 rfl) ?_
        refine lv_iload hC.1 hC.2.1 dL_areReasons_154 (lv_at hl 3 rfl) ?_
        refine lv_iconst (v := tw_I 5) hC.1 hC.2.1 dL_areReasons_156 rfl ?_
        refine kX8_term hC hR hL hk gx4 ((tw_rgL rfl)) mlL_23 ⟨by decide, by decide⟩ hl.1 (Nat.le_of_ble_eq_true rfl) ⟨Nat.zero_le _, Nat.zero_le _⟩ dL_areReasons_157 (fun v9 h9 H locs hR hL gv9 hk => ?_)
        refine lv_iconst (v := tw_I 1) hC.1 hC.2.1 dL_areReasons_160 rfl ?_
        refine tw_cne (tgt := 221) hC hk gv9 ((tw_rgL rfl)) dL_areReasons_161 (by decide) (fun _ hk => ?_) (fun _ hk => ?_)
        · cases hk
          exact ih _ out hf H locs _ gx3 gx4 gx5 gx6 gx7 gx8 hR hL (lv_sub hl [0, 1, 2, 3, 4, 5, 6, 7] rfl)
        · cases hk
          exact ih _ out hf H locs _ gx3 gx4 gx5 gx6 hR hL (lv_sub hl [0, 1, 2, 3, 4, 5] rfl)
      · cases hk
        exact ih _ out hf H locs _ gx3 gx4 gx5 gx6 gx7 gx8 hR hL (lv_sub hl [0, 1, 2, 3, 4, 5, 6, 7] rfl)
    · intro H locs ls gx3 gx4 gx5 gx6 gx7 gx8 hR hL hl
      dsimp only [fL_areReasons_S0] at hk
      refine lv_iload hC.1 hC.2.1 dL_areReasons_164 (lv_at hl 6 rfl) ?_
      refine lv_iconst (v := tw_I 5) hC.1 hC.2.1 dL_areReasons_166 rfl ?_
      refine tw_cne (tgt := 182) hC hk gx7 ((tw_rgL rfl)) dL_areReasons_167 (by decide) (fun _ hk => ?_) (fun _ hk => ?_)
      · refine lv_aload_n hC.1 hC.2.1 dL_areReasons_170 rfl (lv_at hl 0 rfl) ?_
        refine lv_iload hC.1 hC.2.1 dL_areReasons_171 (lv_at hl 3 rfl) ?_
        refine lv_iload_n hC.1 hC.2.1 dL_areReasons_173 rfl (lv_at hl 1 rfl) ?_
        refine kX8_firstUse hC hR hL hk gx4 ga2 mlL_73 ⟨by decide, by decide⟩ hl.1 (Nat.le_of_ble_eq_true rfl) ⟨Nat.zero_le _, Nat.zero_le _⟩ dL_areReasons_174 (fun v10 h10 H locs hR hL gv10 hk => ?_)
        refine lv_iload hC.1 hC.2.1 dL_areReasons_177 (lv_at hl 5 rfl) ?_
        refine tw_cge (tgt := 221) hC hk gv10 gx6 dL_areReasons_179 (by decide) (fun _ hk => ?_) (fun _ hk => ?_)
        · cases hk
          exact ih _ out hf H locs _ gx3 gx4 gx5 gx6 gx7 gx8 hR hL (lv_sub hl [0, 1, 2, 3, 4, 5, 6, 7] rfl)
        · cases hk
          exact ih _ out hf H locs _ gx3 gx4 gx5 gx6 hR hL (lv_sub hl [0, 1, 2, 3, 4, 5] rfl)
      · cases hk
        exact ih _ out hf H locs _ gx3 gx4 gx5 gx6 gx7 gx8 hR hL (lv_sub hl [0, 1, 2, 3, 4, 5, 6, 7] rfl)
    · intro H locs ls gx3 gx4 gx5 gx6 gx7 gx8 hR hL hl
      dsimp only [fL_areReasons_S0] at hk
      refine lv_iload hC.1 hC.2.1 dL_areReasons_182 (lv_at hl 6 rfl) ?_
      refine lv_iconst (v := tw_I 4) hC.1 hC.2.1 dL_areReasons_184 rfl ?_
      refine tw_ceq (tgt := 217) hC hk gx7 ((tw_rgL rfl)) dL_areReasons_185 (by decide) (fun _ hk => ?_) (fun _ hk => ?_)
      · cases hk
        exact ih _ out hf H locs _ gx3 gx4 gx5 gx6 hR hL (lv_sub hl [0, 1, 2, 3, 4, 5] rfl)
      · refine lv_iload hC.1 hC.2.1 dL_areReasons_188 (lv_at hl 6 rfl) ?_
        refine lv_iconst (v := tw_I 5) hC.1 hC.2.1 dL_areReasons_190 rfl ?_
        refine tw_ceq (tgt := 217) hC hk gx7 ((tw_rgL rfl)) dL_areReasons_191 (by decide) (fun _ hk => ?_) (fun _ hk => ?_)
        · cases hk
          exact ih _ out hf H locs _ gx3 gx4 gx5 gx6 hR hL (lv_sub hl [0, 1, 2, 3, 4, 5] rfl)
        · refine lv_iload hC.1 hC.2.1 dL_areReasons_194 (lv_at hl 6 rfl) ?_
          refine tw_zeq (tgt := 217) hC hk gx7 dL_areReasons_196 (by decide) (fun _ hk => ?_) (fun _ hk => ?_)
          · cases hk
            exact ih _ out hf H locs _ gx3 gx4 gx5 gx6 hR hL (lv_sub hl [0, 1, 2, 3, 4, 5] rfl)
          · refine lv_iload hC.1 hC.2.1 dL_areReasons_199 (lv_at hl 7 rfl) ?_
            refine lv_iload hC.1 hC.2.1 dL_areReasons_201 (lv_at hl 3 rfl) ?_
            refine tw_cne (tgt := 217) hC hk gx8 gx4 dL_areReasons_203 (by decide) (fun _ hk => ?_) (fun _ hk => ?_)
            · refine lv_aload_n hC.1 hC.2.1 dL_areReasons_206 rfl (lv_at hl 0 rfl) ?_
              refine lv_iload_n hC.1 hC.2.1 dL_areReasons_207 rfl (lv_at hl 1 rfl) ?_
              refine lv_iload hC.1 hC.2.1 dL_areReasons_208 (lv_at hl 5 rfl) ?_
              refine lv_iconst (v := tw_I 2) hC.1 hC.2.1 dL_areReasons_210 rfl ?_
              refine kX8_place hC hR hL hk ga2 gx6 ((tw_rgL rfl)) mlL_19 ⟨by decide, by decide⟩ hl.1 (Nat.le_of_ble_eq_true rfl) ⟨Nat.zero_le _, Nat.zero_le _⟩ dL_areReasons_211 (fun v11 h11 H locs hR hL gv11 hk => ?_)
              refine tw_zle (tgt := 221) hC hk gv11 dL_areReasons_214 (by decide) (fun _ hk => ?_) (fun _ hk => ?_)
              · cases hk
                exact ih _ out hf H locs _ gx3 gx4 gx5 gx6 hR hL (lv_sub hl [0, 1, 2, 3, 4, 5] rfl)
              · cases hk
                exact ih _ out hf H locs _ gx3 gx4 gx5 gx6 hR hL (lv_sub hl [0, 1, 2, 3, 4, 5] rfl)
            · cases hk
              exact ih _ out hf H locs _ gx3 gx4 gx5 gx6 hR hL (lv_sub hl [0, 1, 2, 3, 4, 5] rfl)
    · intro H locs ls gx3 gx4 gx5 gx6 hR hL hl
      dsimp only [fL_areReasons_S0] at hk
      refine lv_iconst (v := tw_I 1) hC.1 hC.2.1 dL_areReasons_217 rfl ?_
      refine lv_goto (tgt := 222) hC.1 hC.2.1 dL_areReasons_218 (by decide) ?_
      cases hk
      exact ih _ out hf H locs _ gx3 gx4 gx5 gx6 ((tw_rgL rfl)) hR hL (lv_sub hl [0, 1, 2, 3, 4, 5] rfl)
    · intro H locs ls gx3 gx4 gx5 gx6 hR hL hl
      dsimp only [fL_areReasons_S0] at hk
      refine lv_iconst (v := tw_I 0) hC.1 hC.2.1 dL_areReasons_221 rfl ?_
      cases hk
      exact ih _ out hf H locs _ gx3 gx4 gx5 gx6 ((tw_rgL rfl)) hR hL (lv_sub hl [0, 1, 2, 3, 4, 5] rfl)
    · intro H locs ls gx3 gx4 gx5 gx6 gs0 hR hL hl
      dsimp only [fL_areReasons_S0] at hk
      refine lv_istore_n (lv' := [(2, .int (tw_I s0)), (0, .ref a1), (1, .int (tw_I a2)), (3, .int (tw_I x3)), (4, .int (tw_I x4)), (5, .int (tw_I x5)), (6, .int (tw_I x6))]) hC.1 hC.2.1 dL_areReasons_222 rfl hl (by decide) rfl (fun ls hl => ?_)
      refine tw_iinc (lv' := [(6, .int (tw_I (tm_wr (x6 + 1)))), (2, .int (tw_I s0)), (0, .ref a1), (1, .int (tw_I a2)), (3, .int (tw_I x3)), (4, .int (tw_I x4)), (5, .int (tw_I x5))]) hC dL_areReasons_223 hl (k := 6) rfl (by decide) rfl (fun ls hl => ?_)
      refine lv_goto (tgt := 31) hC.1 hC.2.1 dL_areReasons_226 (by decide) ?_
      cases hk
      exact ih _ out hf H locs _ gs0 gx3 gx4 gx5 ((tm_wr_rg _)) hR hL (lv_sub hl [2, 3, 1, 4, 5, 6, 0] rfl)
    · intro H locs ls gx2 gx3 gx4 gx5 hR hL hl
      dsimp only [fL_areReasons_S0] at hk
      refine lv_iload_n hC.1 hC.2.1 dL_areReasons_229 rfl (lv_at hl 2 rfl) ?_
      refine tw_zeq (tgt := 269) hC hk gx2 dL_areReasons_230 (by decide) (fun _ hk => ?_) (fun _ hk => ?_)
      · cases hk
        exact ih _ out hf H locs _ gx3 gx4 hR hL (lv_sub hl [0, 1, 3, 4] rfl)
      · refine lv_iload hC.1 hC.2.1 dL_areReasons_233 (lv_at hl 5 rfl) ?_
        refine lv_aload_n hC.1 hC.2.1 dL_areReasons_235 rfl (lv_at hl 0 rfl) ?_
        refine lv_iload hC.1 hC.2.1 dL_areReasons_236 (lv_at hl 4 rfl) ?_
        refine lv_iconst (v := tw_I 5) hC.1 hC.2.1 dL_areReasons_238 rfl ?_
        refine kX8_term hC hR hL hk gx4 ((tw_rgL rfl)) mlL_23 ⟨by decide, by decide⟩ hl.1 (Nat.le_of_ble_eq_true rfl) ⟨Nat.zero_le _, Nat.zero_le _⟩ dL_areReasons_239 (fun v12 h12 H locs hR hL gv12 hk => ?_)
        refine tw_zne (tgt := 261) hC hk gv12 dL_areReasons_242 (by decide) (fun _ hk => ?_) (fun _ hk => ?_)
        · refine lv_aload_n hC.1 hC.2.1 dL_areReasons_245 rfl (lv_at hl 0 rfl) ?_
          refine lv_iload hC.1 hC.2.1 dL_areReasons_246 (lv_at hl 4 rfl) ?_
          refine lv_iload_n hC.1 hC.2.1 dL_areReasons_248 rfl (lv_at hl 1 rfl) ?_
          refine kX8_firstUse hC hR hL hk gx4 ga2 mlL_73 ⟨by decide, by decide⟩ hl.1 (Nat.le_of_ble_eq_true rfl) ⟨Nat.zero_le _, Nat.zero_le _⟩ dL_areReasons_249 (fun v13 h13 H locs hR hL gv13 hk => ?_)
          refine lv_bipush (v := tw_I (-99)) hC.1 hC.2.1 dL_areReasons_252 (by decide) ?_
          refine tw_ceq (tgt := 261) hC hk gv13 ((tw_rgL rfl)) dL_areReasons_254 (by decide) (fun _ hk => ?_) (fun _ hk => ?_)
          · cases hk
            exact ih _ out hf H locs _ gx3 gx4 gx5 hR hL (lv_sub hl [0, 1, 3, 4] rfl)
          · refine lv_iconst (v := tw_I 1) hC.1 hC.2.1 dL_areReasons_257 rfl ?_
            refine lv_goto (tgt := 262) hC.1 hC.2.1 dL_areReasons_258 (by decide) ?_
            cases hk
            exact ih _ out hf H locs _ gx3 gx4 gx5 ((tw_rgL rfl)) hR hL (lv_sub hl [0, 1, 3, 4] rfl)
        · cases hk
          exact ih _ out hf H locs _ gx3 gx4 gx5 hR hL (lv_sub hl [0, 1, 3, 4] rfl)
    · intro H locs ls gx3 gx4 gs0 hR hL hl
      dsimp only [fL_areReasons_S0] at hk
      refine lv_iconst (v := tw_I 0) hC.1 hC.2.1 dL_areReasons_261 rfl ?_
      cases hk
      exact ih _ out hf H locs _ gx3 gx4 gs0 ((tw_rgL rfl)) hR hL (lv_sub hl [0, 1, 2, 3] rfl)
    · intro H locs ls gx3 gx4 gs0 gs1 hR hL hl
      dsimp only [fL_areReasons_S0] at hk
      refine tw_cne (tgt := 269) hC hk gs0 gs1 dL_areReasons_262 (by decide) (fun _ hk => ?_) (fun _ hk => ?_)
      · refine lv_iconst (v := tw_I 1) hC.1 hC.2.1 dL_areReasons_265 rfl ?_
        refine lv_goto (tgt := 270) hC.1 hC.2.1 dL_areReasons_266 (by decide) ?_
        cases hk
        exact ih _ out hf H locs _ gx3 gx4 ((tw_rgL rfl)) hR hL (lv_sub hl [0, 1, 2, 3] rfl)
      · cases hk
        exact ih _ out hf H locs _ gx3 gx4 hR hL (lv_sub hl [0, 1, 2, 3] rfl)
    · intro H locs ls gx3 gx4 hR hL hl
      dsimp only [fL_areReasons_S0] at hk
      refine lv_iconst (v := tw_I 0) hC.1 hC.2.1 dL_areReasons_269 rfl ?_
      cases hk
      exact ih _ out hf H locs _ gx3 gx4 ((tw_rgL rfl)) hR hL (lv_sub hl [0, 1, 2, 3] rfl)
    · intro H locs ls gx3 gx4 gs0 hR hL hl
      dsimp only [fL_areReasons_S0] at hk
      refine lv_istore_n (lv' := [(2, .int (tw_I s0)), (0, .ref a1), (1, .int (tw_I a2)), (3, .int (tw_I x3)), (4, .int (tw_I x4))]) hC.1 hC.2.1 dL_areReasons_270 rfl hl (by decide) rfl (fun ls hl => ?_)
      refine tw_iinc (lv' := [(4, .int (tw_I (tm_wr (x4 + 1)))), (2, .int (tw_I s0)), (0, .ref a1), (1, .int (tw_I a2)), (3, .int (tw_I x3))]) hC dL_areReasons_271 hl (k := 4) rfl (by decide) rfl (fun ls hl => ?_)
      refine lv_goto (tgt := 11) hC.1 hC.2.1 dL_areReasons_274 (by decide) ?_
      cases hk
      exact ih _ out hf H locs _ gs0 gx3 ((tm_wr_rg _)) hR hL (lv_sub hl [2, 3, 1, 4, 0] rfl)
theorem sL_areReasons_L11 {l : Launch} {p : Program} {e : Env} {s : State} {m : MethodId} {args : Array Value} {below : List Frame} {meth : Method} {c : Code} (G : tw_G) (sz : Nat) (hC : tw_C G p s m args meth c RL cL_areReasons 9 (some .boolean)) (a1 : Nat) (a2 : Int) (ga2 : tm_rg a2) (x2 : Int) (x3 : Int) (x4 : Int) (h : tm_H) (gx2 : tm_rg x2) (gx3 : tm_rg x3) (gx4 : tm_rg x4) (out : Int × tm_H) (hk : fL_areReasons_L11 a1 a2 x2 x3 x4 h = some out) (H : Heap) (locs : List Loc) (ls : Array Slot) (hR : tw_Rel G sz h H) (hL : tw_L G locs) (hl : lv_has ls 9 [(0, .ref a1), (1, .int (tw_I a2)), (2, .int (tw_I x2)), (3, .int (tw_I x3)), (4, .int (tw_I x4))]) : W p l e rmL_areReasons s m args below meth c H locs 0 0 (MQ below (tw_Qi G sz out.1 out.2) args s 0 0 (tw_F G)) (F0 m 11 ls []) := by
  obtain ⟨k, hk⟩ := tm_wl_iff.mp hk
  exact sL_areReasons_S0 G sz hC a1 a2 ga2 k (.inl ((x2, x3, x4, h))) out hk H locs ls gx2 gx3 gx4 hR hL hl
theorem sL_areReasons_L31 {l : Launch} {p : Program} {e : Env} {s : State} {m : MethodId} {args : Array Value} {below : List Frame} {meth : Method} {c : Code} (G : tw_G) (sz : Nat) (hC : tw_C G p s m args meth c RL cL_areReasons 9 (some .boolean)) (a1 : Nat) (a2 : Int) (ga2 : tm_rg a2) (x2 : Int) (x3 : Int) (x4 : Int) (x5 : Int) (x6 : Int) (h : tm_H) (gx2 : tm_rg x2) (gx3 : tm_rg x3) (gx4 : tm_rg x4) (gx5 : tm_rg x5) (gx6 : tm_rg x6) (out : Int × tm_H) (hk : fL_areReasons_L31 a1 a2 x2 x3 x4 x5 x6 h = some out) (H : Heap) (locs : List Loc) (ls : Array Slot) (hR : tw_Rel G sz h H) (hL : tw_L G locs) (hl : lv_has ls 9 [(0, .ref a1), (1, .int (tw_I a2)), (2, .int (tw_I x2)), (3, .int (tw_I x3)), (4, .int (tw_I x4)), (5, .int (tw_I x5)), (6, .int (tw_I x6))]) : W p l e rmL_areReasons s m args below meth c H locs 0 0 (MQ below (tw_Qi G sz out.1 out.2) args s 0 0 (tw_F G)) (F0 m 31 ls []) := by
  obtain ⟨k, hk⟩ := tm_wl_iff.mp hk
  exact sL_areReasons_S0 G sz hC a1 a2 ga2 k (.inr (.inl ((x2, x3, x4, x5, x6, h)))) out hk H locs ls gx2 gx3 gx4 gx5 gx6 hR hL hl
theorem sL_areReasons_L64 {l : Launch} {p : Program} {e : Env} {s : State} {m : MethodId} {args : Array Value} {below : List Frame} {meth : Method} {c : Code} (G : tw_G) (sz : Nat) (hC : tw_C G p s m args meth c RL cL_areReasons 9 (some .boolean)) (a1 : Nat) (a2 : Int) (ga2 : tm_rg a2) (x3 : Int) (x4 : Int) (x6 : Int) (x7 : Int) (s0 : Int) (s1 : Int) (h : tm_H) (gx3 : tm_rg x3) (gx4 : tm_rg x4) (gx6 : tm_rg x6) (gx7 : tm_rg x7) (gs0 : tm_rg s0) (gs1 : tm_rg s1) (out : Int × tm_H) (hk : fL_areReasons_L64 a1 a2 x3 x4 x6 x7 s0 s1 h = some out) (H : Heap) (locs : List Loc) (ls : Array Slot) (hR : tw_Rel G sz h H) (hL : tw_L G locs) (hl : lv_has ls 9 [(0, .ref a1), (1, .int (tw_I a2)), (3, .int (tw_I x3)), (4, .int (tw_I x4)), (6, .int (tw_I x6)), (7, .int (tw_I x7))]) : W p l e rmL_areReasons s m args below meth c H locs 0 0 (MQ below (tw_Qi G sz out.1 out.2) args s 0 0 (tw_F G)) (F0 m 64 ls [.int (tw_I s1), .int (tw_I s0)]) := by
  obtain ⟨k, hk⟩ := tm_wl_iff.mp hk
  exact sL_areReasons_S0 G sz hC a1 a2 ga2 k (.inr (.inr (.inl ((x3, x4, x6, x7, s0, s1, h))))) out hk H locs ls gx3 gx4 gx6 gx7 gs0 gs1 hR hL hl
theorem sL_areReasons_L130 {l : Launch} {p : Program} {e : Env} {s : State} {m : MethodId} {args : Array Value} {below : List Frame} {meth : Method} {c : Code} (G : tw_G) (sz : Nat) (hC : tw_C G p s m args meth c RL cL_areReasons 9 (some .boolean)) (a1 : Nat) (a2 : Int) (ga2 : tm_rg a2) (x3 : Int) (x4 : Int) (x5 : Int) (x6 : Int) (x7 : Int) (x8 : Int) (h : tm_H) (gx3 : tm_rg x3) (gx4 : tm_rg x4) (gx5 : tm_rg x5) (gx6 : tm_rg x6) (gx7 : tm_rg x7) (gx8 : tm_rg x8) (out : Int × tm_H) (hk : fL_areReasons_L130 a1 a2 x3 x4 x5 x6 x7 x8 h = some out) (H : Heap) (locs : List Loc) (ls : Array Slot) (hR : tw_Rel G sz h H) (hL : tw_L G locs) (hl : lv_has ls 9 [(0, .ref a1), (1, .int (tw_I a2)), (3, .int (tw_I x3)), (4, .int (tw_I x4)), (5, .int (tw_I x5)), (6, .int (tw_I x6)), (7, .int (tw_I x7)), (8, .int (tw_I x8))]) : W p l e rmL_areReasons s m args below meth c H locs 0 0 (MQ below (tw_Qi G sz out.1 out.2) args s 0 0 (tw_F G)) (F0 m 130 ls []) := by
  obtain ⟨k, hk⟩ := tm_wl_iff.mp hk
  exact sL_areReasons_S0 G sz hC a1 a2 ga2 k (.inr (.inr (.inr (.inl ((x3, x4, x5, x6, x7, x8, h)))))) out hk H locs ls gx3 gx4 gx5 gx6 gx7 gx8 hR hL hl
theorem sL_areReasons_L147 {l : Launch} {p : Program} {e : Env} {s : State} {m : MethodId} {args : Array Value} {below : List Frame} {meth : Method} {c : Code} (G : tw_G) (sz : Nat) (hC : tw_C G p s m args meth c RL cL_areReasons 9 (some .boolean)) (a1 : Nat) (a2 : Int) (ga2 : tm_rg a2) (x3 : Int) (x4 : Int) (x5 : Int) (x6 : Int) (x7 : Int) (x8 : Int) (h : tm_H) (gx3 : tm_rg x3) (gx4 : tm_rg x4) (gx5 : tm_rg x5) (gx6 : tm_rg x6) (gx7 : tm_rg x7) (gx8 : tm_rg x8) (out : Int × tm_H) (hk : fL_areReasons_L147 a1 a2 x3 x4 x5 x6 x7 x8 h = some out) (H : Heap) (locs : List Loc) (ls : Array Slot) (hR : tw_Rel G sz h H) (hL : tw_L G locs) (hl : lv_has ls 9 [(0, .ref a1), (1, .int (tw_I a2)), (3, .int (tw_I x3)), (4, .int (tw_I x4)), (5, .int (tw_I x5)), (6, .int (tw_I x6)), (7, .int (tw_I x7)), (8, .int (tw_I x8))]) : W p l e rmL_areReasons s m args below meth c H locs 0 0 (MQ below (tw_Qi G sz out.1 out.2) args s 0 0 (tw_F G)) (F0 m 147 ls []) := by
  obtain ⟨k, hk⟩ := tm_wl_iff.mp hk
  exact sL_areReasons_S0 G sz hC a1 a2 ga2 k (.inr (.inr (.inr (.inr (.inl ((x3, x4, x5, x6, x7, x8, h))))))) out hk H locs ls gx3 gx4 gx5 gx6 gx7 gx8 hR hL hl
theorem sL_areReasons_L164 {l : Launch} {p : Program} {e : Env} {s : State} {m : MethodId} {args : Array Value} {below : List Frame} {meth : Method} {c : Code} (G : tw_G) (sz : Nat) (hC : tw_C G p s m args meth c RL cL_areReasons 9 (some .boolean)) (a1 : Nat) (a2 : Int) (ga2 : tm_rg a2) (x3 : Int) (x4 : Int) (x5 : Int) (x6 : Int) (x7 : Int) (x8 : Int) (h : tm_H) (gx3 : tm_rg x3) (gx4 : tm_rg x4) (gx5 : tm_rg x5) (gx6 : tm_rg x6) (gx7 : tm_rg x7) (gx8 : tm_rg x8) (out : Int × tm_H) (hk : fL_areReasons_L164 a1 a2 x3 x4 x5 x6 x7 x8 h = some out) (H : Heap) (locs : List Loc) (ls : Array Slot) (hR : tw_Rel G sz h H) (hL : tw_L G locs) (hl : lv_has ls 9 [(0, .ref a1), (1, .int (tw_I a2)), (3, .int (tw_I x3)), (4, .int (tw_I x4)), (5, .int (tw_I x5)), (6, .int (tw_I x6)), (7, .int (tw_I x7)), (8, .int (tw_I x8))]) : W p l e rmL_areReasons s m args below meth c H locs 0 0 (MQ below (tw_Qi G sz out.1 out.2) args s 0 0 (tw_F G)) (F0 m 164 ls []) := by
  obtain ⟨k, hk⟩ := tm_wl_iff.mp hk
  exact sL_areReasons_S0 G sz hC a1 a2 ga2 k (.inr (.inr (.inr (.inr (.inr (.inl ((x3, x4, x5, x6, x7, x8, h)))))))) out hk H locs ls gx3 gx4 gx5 gx6 gx7 gx8 hR hL hl
theorem sL_areReasons_L182 {l : Launch} {p : Program} {e : Env} {s : State} {m : MethodId} {args : Array Value} {below : List Frame} {meth : Method} {c : Code} (G : tw_G) (sz : Nat) (hC : tw_C G p s m args meth c RL cL_areReasons 9 (some .boolean)) (a1 : Nat) (a2 : Int) (ga2 : tm_rg a2) (x3 : Int) (x4 : Int) (x5 : Int) (x6 : Int) (x7 : Int) (x8 : Int) (h : tm_H) (gx3 : tm_rg x3) (gx4 : tm_rg x4) (gx5 : tm_rg x5) (gx6 : tm_rg x6) (gx7 : tm_rg x7) (gx8 : tm_rg x8) (out : Int × tm_H) (hk : fL_areReasons_L182 a1 a2 x3 x4 x5 x6 x7 x8 h = some out) (H : Heap) (locs : List Loc) (ls : Array Slot) (hR : tw_Rel G sz h H) (hL : tw_L G locs) (hl : lv_has ls 9 [(0, .ref a1), (1, .int (tw_I a2)), (3, .int (tw_I x3)), (4, .int (tw_I x4)), (5, .int (tw_I x5)), (6, .int (tw_I x6)), (7, .int (tw_I x7)), (8, .int (tw_I x8))]) : W p l e rmL_areReasons s m args below meth c H locs 0 0 (MQ below (tw_Qi G sz out.1 out.2) args s 0 0 (tw_F G)) (F0 m 182 ls []) := by
  obtain ⟨k, hk⟩ := tm_wl_iff.mp hk
  exact sL_areReasons_S0 G sz hC a1 a2 ga2 k (.inr (.inr (.inr (.inr (.inr (.inr (.inl ((x3, x4, x5, x6, x7, x8, h))))))))) out hk H locs ls gx3 gx4 gx5 gx6 gx7 gx8 hR hL hl
theorem sL_areReasons_L217 {l : Launch} {p : Program} {e : Env} {s : State} {m : MethodId} {args : Array Value} {below : List Frame} {meth : Method} {c : Code} (G : tw_G) (sz : Nat) (hC : tw_C G p s m args meth c RL cL_areReasons 9 (some .boolean)) (a1 : Nat) (a2 : Int) (ga2 : tm_rg a2) (x3 : Int) (x4 : Int) (x5 : Int) (x6 : Int) (h : tm_H) (gx3 : tm_rg x3) (gx4 : tm_rg x4) (gx5 : tm_rg x5) (gx6 : tm_rg x6) (out : Int × tm_H) (hk : fL_areReasons_L217 a1 a2 x3 x4 x5 x6 h = some out) (H : Heap) (locs : List Loc) (ls : Array Slot) (hR : tw_Rel G sz h H) (hL : tw_L G locs) (hl : lv_has ls 9 [(0, .ref a1), (1, .int (tw_I a2)), (3, .int (tw_I x3)), (4, .int (tw_I x4)), (5, .int (tw_I x5)), (6, .int (tw_I x6))]) : W p l e rmL_areReasons s m args below meth c H locs 0 0 (MQ below (tw_Qi G sz out.1 out.2) args s 0 0 (tw_F G)) (F0 m 217 ls []) := by
  obtain ⟨k, hk⟩ := tm_wl_iff.mp hk
  exact sL_areReasons_S0 G sz hC a1 a2 ga2 k (.inr (.inr (.inr (.inr (.inr (.inr (.inr (.inl ((x3, x4, x5, x6, h)))))))))) out hk H locs ls gx3 gx4 gx5 gx6 hR hL hl
theorem sL_areReasons_L221 {l : Launch} {p : Program} {e : Env} {s : State} {m : MethodId} {args : Array Value} {below : List Frame} {meth : Method} {c : Code} (G : tw_G) (sz : Nat) (hC : tw_C G p s m args meth c RL cL_areReasons 9 (some .boolean)) (a1 : Nat) (a2 : Int) (ga2 : tm_rg a2) (x3 : Int) (x4 : Int) (x5 : Int) (x6 : Int) (h : tm_H) (gx3 : tm_rg x3) (gx4 : tm_rg x4) (gx5 : tm_rg x5) (gx6 : tm_rg x6) (out : Int × tm_H) (hk : fL_areReasons_L221 a1 a2 x3 x4 x5 x6 h = some out) (H : Heap) (locs : List Loc) (ls : Array Slot) (hR : tw_Rel G sz h H) (hL : tw_L G locs) (hl : lv_has ls 9 [(0, .ref a1), (1, .int (tw_I a2)), (3, .int (tw_I x3)), (4, .int (tw_I x4)), (5, .int (tw_I x5)), (6, .int (tw_I x6))]) : W p l e rmL_areReasons s m args below meth c H locs 0 0 (MQ below (tw_Qi G sz out.1 out.2) args s 0 0 (tw_F G)) (F0 m 221 ls []) := by
  obtain ⟨k, hk⟩ := tm_wl_iff.mp hk
  exact sL_areReasons_S0 G sz hC a1 a2 ga2 k (.inr (.inr (.inr (.inr (.inr (.inr (.inr (.inr (.inl ((x3, x4, x5, x6, h))))))))))) out hk H locs ls gx3 gx4 gx5 gx6 hR hL hl
theorem sL_areReasons_L222 {l : Launch} {p : Program} {e : Env} {s : State} {m : MethodId} {args : Array Value} {below : List Frame} {meth : Method} {c : Code} (G : tw_G) (sz : Nat) (hC : tw_C G p s m args meth c RL cL_areReasons 9 (some .boolean)) (a1 : Nat) (a2 : Int) (ga2 : tm_rg a2) (x3 : Int) (x4 : Int) (x5 : Int) (x6 : Int) (s0 : Int) (h : tm_H) (gx3 : tm_rg x3) (gx4 : tm_rg x4) (gx5 : tm_rg x5) (gx6 : tm_rg x6) (gs0 : tm_rg s0) (out : Int × tm_H) (hk : fL_areReasons_L222 a1 a2 x3 x4 x5 x6 s0 h = some out) (H : Heap) (locs : List Loc) (ls : Array Slot) (hR : tw_Rel G sz h H) (hL : tw_L G locs) (hl : lv_has ls 9 [(0, .ref a1), (1, .int (tw_I a2)), (3, .int (tw_I x3)), (4, .int (tw_I x4)), (5, .int (tw_I x5)), (6, .int (tw_I x6))]) : W p l e rmL_areReasons s m args below meth c H locs 0 0 (MQ below (tw_Qi G sz out.1 out.2) args s 0 0 (tw_F G)) (F0 m 222 ls [.int (tw_I s0)]) := by
  obtain ⟨k, hk⟩ := tm_wl_iff.mp hk
  exact sL_areReasons_S0 G sz hC a1 a2 ga2 k (.inr (.inr (.inr (.inr (.inr (.inr (.inr (.inr (.inr (.inl ((x3, x4, x5, x6, s0, h)))))))))))) out hk H locs ls gx3 gx4 gx5 gx6 gs0 hR hL hl
theorem sL_areReasons_L229 {l : Launch} {p : Program} {e : Env} {s : State} {m : MethodId} {args : Array Value} {below : List Frame} {meth : Method} {c : Code} (G : tw_G) (sz : Nat) (hC : tw_C G p s m args meth c RL cL_areReasons 9 (some .boolean)) (a1 : Nat) (a2 : Int) (ga2 : tm_rg a2) (x2 : Int) (x3 : Int) (x4 : Int) (x5 : Int) (h : tm_H) (gx2 : tm_rg x2) (gx3 : tm_rg x3) (gx4 : tm_rg x4) (gx5 : tm_rg x5) (out : Int × tm_H) (hk : fL_areReasons_L229 a1 a2 x2 x3 x4 x5 h = some out) (H : Heap) (locs : List Loc) (ls : Array Slot) (hR : tw_Rel G sz h H) (hL : tw_L G locs) (hl : lv_has ls 9 [(0, .ref a1), (1, .int (tw_I a2)), (2, .int (tw_I x2)), (3, .int (tw_I x3)), (4, .int (tw_I x4)), (5, .int (tw_I x5))]) : W p l e rmL_areReasons s m args below meth c H locs 0 0 (MQ below (tw_Qi G sz out.1 out.2) args s 0 0 (tw_F G)) (F0 m 229 ls []) := by
  obtain ⟨k, hk⟩ := tm_wl_iff.mp hk
  exact sL_areReasons_S0 G sz hC a1 a2 ga2 k (.inr (.inr (.inr (.inr (.inr (.inr (.inr (.inr (.inr (.inr (.inl ((x2, x3, x4, x5, h))))))))))))) out hk H locs ls gx2 gx3 gx4 gx5 hR hL hl
theorem sL_areReasons_L261 {l : Launch} {p : Program} {e : Env} {s : State} {m : MethodId} {args : Array Value} {below : List Frame} {meth : Method} {c : Code} (G : tw_G) (sz : Nat) (hC : tw_C G p s m args meth c RL cL_areReasons 9 (some .boolean)) (a1 : Nat) (a2 : Int) (ga2 : tm_rg a2) (x3 : Int) (x4 : Int) (s0 : Int) (h : tm_H) (gx3 : tm_rg x3) (gx4 : tm_rg x4) (gs0 : tm_rg s0) (out : Int × tm_H) (hk : fL_areReasons_L261 a1 a2 x3 x4 s0 h = some out) (H : Heap) (locs : List Loc) (ls : Array Slot) (hR : tw_Rel G sz h H) (hL : tw_L G locs) (hl : lv_has ls 9 [(0, .ref a1), (1, .int (tw_I a2)), (3, .int (tw_I x3)), (4, .int (tw_I x4))]) : W p l e rmL_areReasons s m args below meth c H locs 0 0 (MQ below (tw_Qi G sz out.1 out.2) args s 0 0 (tw_F G)) (F0 m 261 ls [.int (tw_I s0)]) := by
  obtain ⟨k, hk⟩ := tm_wl_iff.mp hk
  exact sL_areReasons_S0 G sz hC a1 a2 ga2 k (.inr (.inr (.inr (.inr (.inr (.inr (.inr (.inr (.inr (.inr (.inr (.inl ((x3, x4, s0, h)))))))))))))) out hk H locs ls gx3 gx4 gs0 hR hL hl
theorem sL_areReasons_L262 {l : Launch} {p : Program} {e : Env} {s : State} {m : MethodId} {args : Array Value} {below : List Frame} {meth : Method} {c : Code} (G : tw_G) (sz : Nat) (hC : tw_C G p s m args meth c RL cL_areReasons 9 (some .boolean)) (a1 : Nat) (a2 : Int) (ga2 : tm_rg a2) (x3 : Int) (x4 : Int) (s0 : Int) (s1 : Int) (h : tm_H) (gx3 : tm_rg x3) (gx4 : tm_rg x4) (gs0 : tm_rg s0) (gs1 : tm_rg s1) (out : Int × tm_H) (hk : fL_areReasons_L262 a1 a2 x3 x4 s0 s1 h = some out) (H : Heap) (locs : List Loc) (ls : Array Slot) (hR : tw_Rel G sz h H) (hL : tw_L G locs) (hl : lv_has ls 9 [(0, .ref a1), (1, .int (tw_I a2)), (3, .int (tw_I x3)), (4, .int (tw_I x4))]) : W p l e rmL_areReasons s m args below meth c H locs 0 0 (MQ below (tw_Qi G sz out.1 out.2) args s 0 0 (tw_F G)) (F0 m 262 ls [.int (tw_I s1), .int (tw_I s0)]) := by
  obtain ⟨k, hk⟩ := tm_wl_iff.mp hk
  exact sL_areReasons_S0 G sz hC a1 a2 ga2 k (.inr (.inr (.inr (.inr (.inr (.inr (.inr (.inr (.inr (.inr (.inr (.inr (.inl ((x3, x4, s0, s1, h))))))))))))))) out hk H locs ls gx3 gx4 gs0 gs1 hR hL hl
theorem sL_areReasons_L269 {l : Launch} {p : Program} {e : Env} {s : State} {m : MethodId} {args : Array Value} {below : List Frame} {meth : Method} {c : Code} (G : tw_G) (sz : Nat) (hC : tw_C G p s m args meth c RL cL_areReasons 9 (some .boolean)) (a1 : Nat) (a2 : Int) (ga2 : tm_rg a2) (x3 : Int) (x4 : Int) (h : tm_H) (gx3 : tm_rg x3) (gx4 : tm_rg x4) (out : Int × tm_H) (hk : fL_areReasons_L269 a1 a2 x3 x4 h = some out) (H : Heap) (locs : List Loc) (ls : Array Slot) (hR : tw_Rel G sz h H) (hL : tw_L G locs) (hl : lv_has ls 9 [(0, .ref a1), (1, .int (tw_I a2)), (3, .int (tw_I x3)), (4, .int (tw_I x4))]) : W p l e rmL_areReasons s m args below meth c H locs 0 0 (MQ below (tw_Qi G sz out.1 out.2) args s 0 0 (tw_F G)) (F0 m 269 ls []) := by
  obtain ⟨k, hk⟩ := tm_wl_iff.mp hk
  exact sL_areReasons_S0 G sz hC a1 a2 ga2 k (.inr (.inr (.inr (.inr (.inr (.inr (.inr (.inr (.inr (.inr (.inr (.inr (.inr (.inl ((x3, x4, h)))))))))))))))) out hk H locs ls gx3 gx4 hR hL hl
theorem sL_areReasons_L270 {l : Launch} {p : Program} {e : Env} {s : State} {m : MethodId} {args : Array Value} {below : List Frame} {meth : Method} {c : Code} (G : tw_G) (sz : Nat) (hC : tw_C G p s m args meth c RL cL_areReasons 9 (some .boolean)) (a1 : Nat) (a2 : Int) (ga2 : tm_rg a2) (x3 : Int) (x4 : Int) (s0 : Int) (h : tm_H) (gx3 : tm_rg x3) (gx4 : tm_rg x4) (gs0 : tm_rg s0) (out : Int × tm_H) (hk : fL_areReasons_L270 a1 a2 x3 x4 s0 h = some out) (H : Heap) (locs : List Loc) (ls : Array Slot) (hR : tw_Rel G sz h H) (hL : tw_L G locs) (hl : lv_has ls 9 [(0, .ref a1), (1, .int (tw_I a2)), (3, .int (tw_I x3)), (4, .int (tw_I x4))]) : W p l e rmL_areReasons s m args below meth c H locs 0 0 (MQ below (tw_Qi G sz out.1 out.2) args s 0 0 (tw_F G)) (F0 m 270 ls [.int (tw_I s0)]) := by
  obtain ⟨k, hk⟩ := tm_wl_iff.mp hk
  exact sL_areReasons_S0 G sz hC a1 a2 ga2 k (.inr (.inr (.inr (.inr (.inr (.inr (.inr (.inr (.inr (.inr (.inr (.inr (.inr (.inr ((x3, x4, s0, h)))))))))))))))) out hk H locs ls gx3 gx4 gs0 hR hL hl
set_option maxRecDepth 100000 in
set_option maxHeartbeats 4000000 in
theorem cL_areReasons_ok (l : Launch) (G : tw_G) (sz : Nat) (a1 : Nat) (a2 : Int) (ga2 : tm_rg a2) (h : tm_H) (out : Int × tm_H) (hk : fL_areReasons a1 a2 h = some out) : Met l yL_areReasons (tw_WS yL_areReasons cL_areReasons 9 (some .boolean)) rmL_areReasons (va_Pc [.ref a1, .int (tw_I a2)] (tw_Pre G sz h)) (tw_Qi G sz out.1 out.2) 0 0 (tw_F G) := by
  refine tw_met (by decide +kernel) (Nat.le_of_ble_eq_true rfl) ?_
  intro p e s m args below meth c H ls hC hnm hR hl
  unfold fL_areReasons at hk
  have hl : lv_has ls 9 [(0, .ref a1), (1, .int (tw_I a2))] := hl
  have hL : tw_L G [] := fun q z => by cases z
  generalize hlc : ([] : List Loc) = locs at hL ⊢
  refine lv_iconst (v := tw_I 1) hC.1 hC.2.1 dL_areReasons_0 rfl ?_
  refine lv_istore_n (lv' := [(2, .int (tw_I 1)), (0, .ref a1), (1, .int (tw_I a2))]) hC.1 hC.2.1 dL_areReasons_1 rfl hl (by decide) rfl (fun ls hl => ?_)
  refine lv_aload_n hC.1 hC.2.1 dL_areReasons_2 rfl (lv_at hl 1 rfl) ?_
  refine lv_iload_n hC.1 hC.2.1 dL_areReasons_3 rfl (lv_at hl 2 rfl) ?_
  refine kL_size hC hR hL hk ga2 mlL_88 ⟨by decide, by decide⟩ hl.1 (Nat.le_of_ble_eq_true rfl) ⟨Nat.zero_le _, Nat.zero_le _⟩ dL_areReasons_4 (fun v1 h1 H locs hR hL gv1 hk => ?_)
  refine lv_istore_n (lv' := [(3, .int (tw_I v1)), (2, .int (tw_I 1)), (0, .ref a1), (1, .int (tw_I a2))]) hC.1 hC.2.1 dL_areReasons_7 rfl hl (by decide) rfl (fun ls hl => ?_)
  refine lv_iconst (v := tw_I 0) hC.1 hC.2.1 dL_areReasons_8 rfl ?_
  refine lv_istore (lv' := [(4, .int (tw_I 0)), (3, .int (tw_I v1)), (2, .int (tw_I 1)), (0, .ref a1), (1, .int (tw_I a2))]) hC.1 hC.2.1 dL_areReasons_9 hl (by decide) rfl (fun ls hl => ?_)
  exact sL_areReasons_L11 G sz hC a1 a2 ga2 1 v1 0 h1 ((tw_rgL rfl)) gv1 ((tw_rgL rfl)) out hk H locs _ hR hL (lv_sub hl [3, 4, 2, 1, 0] rfl)
set_option maxRecDepth 100000 in
theorem kL_areReasons {l : Launch} {p : Program} {e : Env} {R : Room} {s : State} {m : MethodId} {args : Array Value} {below : List Frame} {meth : Method} {c : Code} {H : Heap} {locs : List Loc} {cells slots : Nat} {Q : State → Prop} {cc : ByteArray} {pc nL idx : Nat} {ls : Array Slot} {rest : List Value} {G : tw_G} {h : tm_H} {own : String} {ret : Option FieldType} {α : Type} {x : α} {sz : Nat} {a1 : Nat} {a2 : Int} (hC : tw_C G p s m args meth c own cc nL ret) (hR : tw_Rel G sz h H) (hL : tw_L G locs) {F : Int × tm_H → Option α} (hk : (fL_areReasons a1 a2 h).bind F = some x) (ga2 : tm_rg a2) (hl : tw_mL own idx yL_areReasons) (hRm : rmL_areReasons.frames + 1 ≤ R.frames ∧ 8 + (9 + 11) + rmL_areReasons.locals ≤ R.locals) (hsz : ls.size = nL) (hW : (rest.map fun v => v.category).sum ≤ 8) (hf : cells + 0 ≤ R.cells ∧ slots + 0 ≤ R.slots) (hdg : decode cc pc = .ok (.invokestatic idx, 3)) (kk : ∀ (r : Int) (h1 : tm_H) (H1 : Heap) (locs1 : List Loc), tw_Rel G sz h1 H1 → tw_L G locs1 → tm_rg r → F (r, h1) = some x → W p l e R s m args below meth c H1 locs1 (cells + 0) (slots + 0) Q (F0 m (pc + 3) ls (.int (tw_I r) :: rest))) : W p l e R s m args below meth c H locs cells slots Q (F0 m pc ls (.int (tw_I a2) :: .ref a1 :: rest)) := by
  obtain ⟨r, hr, hF⟩ := Option.bind_eq_some_iff.mp hk
  exact tw_backi (tw_runS hC hR (cL_areReasons_ok l G sz a1 a2 ga2 h r hr) (n := 2) ⟨tw_in_TB 628 (by decide +kernel) rfl, tw_in_TB 8 (by decide +kernel) rfl, by decide +kernel⟩ (tw_in_TB 627 (by decide +kernel) rfl) hl ⟨rfl, rfl⟩ hRm rfl hsz rfl hW hdg hf) hL (fun H1 locs1 a b g => kk r.1 r.2 H1 locs1 a b g hF)
def rmL_areBases : Room := { frames := 7, cells := 0, slots := 0, locals := 160 }
set_option maxRecDepth 100000 in
set_option maxHeartbeats 4000000 in
theorem sL_areBases_L102 {l : Launch} {p : Program} {e : Env} {s : State} {m : MethodId} {args : Array Value} {below : List Frame} {meth : Method} {c : Code} (G : tw_G) (sz : Nat) (hC : tw_C G p s m args meth c RL cL_areBases 5 (some .boolean)) (a1 : Nat)  (x1 : Int) (x2 : Int) (h : tm_H) (gx1 : tm_rg x1) (gx2 : tm_rg x2) (out : Int × tm_H) (hk : fL_areBases_L102 a1 x1 x2 h = some out) (H : Heap) (locs : List Loc) (ls : Array Slot) (hR : tw_Rel G sz h H) (hL : tw_L G locs) (hl : lv_has ls 5 [(0, .ref a1), (1, .int (tw_I x1)), (2, .int (tw_I x2))]) : W p l e rmL_areBases s m args below meth c H locs 0 0 (MQ below (tw_Qi G sz out.1 out.2) args s 0 0 (tw_F G)) (F0 m 102 ls []) := by
  unfold fL_areBases_L102 at hk
  refine lv_iload_n hC.1 hC.2.1 dL_areBases_102 rfl (lv_at hl 2 rfl) ?_
  refine tw_zeq (tgt := 120) hC hk gx2 dL_areBases_103 (by decide) (fun _ hk => ?_) (fun _ hk => ?_)
  · refine lv_iconst (v := tw_I 0) hC.1 hC.2.1 dL_areBases_120 rfl ?_
    cases hk
    exact tw_zret hC hR hL rfl rfl dL_areBases_121
  · refine lv_iload_n hC.1 hC.2.1 dL_areBases_106 rfl (lv_at hl 1 rfl) ?_
    refine lv_aload_n hC.1 hC.2.1 dL_areBases_107 rfl (lv_at hl 0 rfl) ?_
    refine lv_bipush (v := tw_I 6) hC.1 hC.2.1 dL_areBases_108 (by decide) ?_
    refine kX8_count hC hR hL hk ((tw_rgL rfl)) mlL_13 ⟨by decide, by decide⟩ hl.1 (Nat.le_of_ble_eq_true rfl) ⟨Nat.zero_le _, Nat.zero_le _⟩ dL_areBases_110 (fun v7 h7 H locs hR hL gv7 hk => ?_)
    refine tw_cne (tgt := 120) hC hk gx1 gv7 dL_areBases_113 (by decide) (fun _ hk => ?_) (fun _ hk => ?_)
    · refine lv_iconst (v := tw_I 1) hC.1 hC.2.1 dL_areBases_116 rfl ?_
      refine lv_goto (tgt := 121) hC.1 hC.2.1 dL_areBases_117 (by decide) ?_
      cases hk
      exact tw_zret hC hR hL rfl rfl dL_areBases_121
    · refine lv_iconst (v := tw_I 0) hC.1 hC.2.1 dL_areBases_120 rfl ?_
      cases hk
      exact tw_zret hC hR hL rfl rfl dL_areBases_121
set_option maxRecDepth 100000 in
set_option maxHeartbeats 4000000 in
theorem sL_areBases_S1 {l : Launch} {p : Program} {e : Env} {s : State} {m : MethodId} {args : Array Value} {below : List Frame} {meth : Method} {c : Code} (G : tw_G) (sz : Nat) (hC : tw_C G p s m args meth c RL cL_areBases 5 (some .boolean)) (a1 : Nat)  : ∀ (k : Nat) (st : (Int × Int × Int × tm_H) ⊕ (Int × Int × Int × tm_H) ⊕ (Int × Int × Int × Int × tm_H) ⊕ (Int × Int × Int × Int × tm_H)) (out : Int × tm_H), tm_wit (fL_areBases_S1 a1) k st = some out → match st with
    | .inl ((x1, x2, x3, h)) => ∀ (H : Heap) (locs : List Loc) (ls : Array Slot), tm_rg x1 → tm_rg x2 → tm_rg x3 → tw_Rel G sz h H → tw_L G locs → lv_has ls 5 [(0, .ref a1), (1, .int (tw_I x1)), (2, .int (tw_I x2)), (3, .int (tw_I x3))] → W p l e rmL_areBases s m args below meth c H locs 0 0 (MQ below (tw_Qi G sz out.1 out.2) args s 0 0 (tw_F G)) (F0 m 6 ls [])
    | .inr (.inl ((x1, x3, x4, h))) => ∀ (H : Heap) (locs : List Loc) (ls : Array Slot), tm_rg x1 → tm_rg x3 → tm_rg x4 → tw_Rel G sz h H → tw_L G locs → lv_has ls 5 [(0, .ref a1), (1, .int (tw_I x1)), (3, .int (tw_I x3)), (4, .int (tw_I x4))] → W p l e rmL_areBases s m args below meth c H locs 0 0 (MQ below (tw_Qi G sz out.1 out.2) args s 0 0 (tw_F G)) (F0 m 80 ls [])
    | .inr (.inr (.inl ((x1, x3, x4, s0, h)))) => ∀ (H : Heap) (locs : List Loc) (ls : Array Slot), tm_rg x1 → tm_rg x3 → tm_rg x4 → tm_rg s0 → tw_Rel G sz h H → tw_L G locs → lv_has ls 5 [(0, .ref a1), (1, .int (tw_I x1)), (3, .int (tw_I x3)), (4, .int (tw_I x4))] → W p l e rmL_areBases s m args below meth c H locs 0 0 (MQ below (tw_Qi G sz out.1 out.2) args s 0 0 (tw_F G)) (F0 m 81 ls [.int (tw_I s0)])
    | .inr (.inr (.inr ((x2, x3, s0, s1, h)))) => ∀ (H : Heap) (locs : List Loc) (ls : Array Slot), tm_rg x2 → tm_rg x3 → tm_rg s0 → tm_rg s1 → tw_Rel G sz h H → tw_L G locs → lv_has ls 5 [(0, .ref a1), (2, .int (tw_I x2)), (3, .int (tw_I x3))] → W p l e rmL_areBases s m args below meth c H locs 0 0 (MQ below (tw_Qi G sz out.1 out.2) args s 0 0 (tw_F G)) (F0 m 94 ls [.int (tw_I s1), .int (tw_I s0)]) := by
  intro k
  induction k with
  | zero =>
    intro st out hk
    exact absurd hk (by unfold tm_wit; exact fun z => by cases z)
  | succ k ih =>
    intro st out hk
    obtain ⟨X, hk, hf⟩ := tm_wit_succ hk
    obtain ⟨x1, x2, x3, h⟩ | ⟨x1, x3, x4, h⟩ | ⟨x1, x3, x4, s0, h⟩ | ⟨x2, x3, s0, s1, h⟩ := st
    · intro H locs ls gx1 gx2 gx3 hR hL hl
      dsimp only [fL_areBases_S1] at hk
      refine lv_iload_n hC.1 hC.2.1 dL_areBases_6 rfl (lv_at hl 3 rfl) ?_
      refine lv_aload_n hC.1 hC.2.1 dL_areBases_7 rfl (lv_at hl 0 rfl) ?_
      refine lv_iconst (v := tw_I 0) hC.1 hC.2.1 dL_areBases_8 rfl ?_
      refine kX8_count hC hR hL hk ((tw_rgL rfl)) mlL_13 ⟨by decide, by decide⟩ hl.1 (Nat.le_of_ble_eq_true rfl) ⟨Nat.zero_le _, Nat.zero_le _⟩ dL_areBases_9 (fun v1 h1 H locs hR hL gv1 hk => ?_)
      refine tw_cge (tgt := 102) hC hk gx3 gv1 dL_areBases_12 (by decide) (fun _ hk => ?_) (fun _ hk => ?_)
      · refine lv_iload_n hC.1 hC.2.1 dL_areBases_15 rfl (lv_at hl 2 rfl) ?_
        refine tw_zeq (tgt := 102) hC hk gx2 dL_areBases_16 (by decide) (fun _ hk => ?_) (fun _ hk => ?_)
        · obtain ⟨r, hk2, hX⟩ := tm_out_some hk
          rw [hX] at hf
          have hr : r = out := Option.some.inj hf
          rw [hr] at hk2
          exact sL_areBases_L102 G sz hC a1 x1 x2 h1 gx1 gx2 out hk2 H locs _ hR hL (lv_sub hl [0, 1, 2] rfl)
        · refine lv_aload_n hC.1 hC.2.1 dL_areBases_19 rfl (lv_at hl 0 rfl) ?_
          refine lv_iload_n hC.1 hC.2.1 dL_areBases_20 rfl (lv_at hl 3 rfl) ?_
          refine kX8_base hC hR hL hk gx3 mlL_27 ⟨by decide, by decide⟩ hl.1 (Nat.le_of_ble_eq_true rfl) ⟨Nat.zero_le _, Nat.zero_le _⟩ dL_areBases_21 (fun v2 H locs hR hL gv2 hk => ?_)
          refine lv_istore (lv' := [(4, .int (tw_I v2)), (0, .ref a1), (1, .int (tw_I x1)), (2, .int (tw_I x2)), (3, .int (tw_I x3))]) hC.1 hC.2.1 dL_areBases_24 hl (by decide) rfl (fun ls hl => ?_)
          refine lv_iload hC.1 hC.2.1 dL_areBases_26 (lv_at hl 0 rfl) ?_
          refine tw_zlt (tgt := 80) hC hk gv2 dL_areBases_28 (by decide) (fun _ hk => ?_) (fun _ hk => ?_)
          · cases hk
            exact ih _ out hf H locs _ gx1 gx3 gv2 hR hL (lv_sub hl [1, 2, 4, 0] rfl)
          · refine lv_aload_n hC.1 hC.2.1 dL_areBases_31 rfl (lv_at hl 1 rfl) ?_
            refine lv_iload hC.1 hC.2.1 dL_areBases_32 (lv_at hl 0 rfl) ?_
            refine kX8_base hC hR hL hk gv2 mlL_27 ⟨by decide, by decide⟩ hl.1 (Nat.le_of_ble_eq_true rfl) ⟨Nat.zero_le _, Nat.zero_le _⟩ dL_areBases_34 (fun v3 H locs hR hL gv3 hk => ?_)
            refine lv_iload hC.1 hC.2.1 dL_areBases_37 (lv_at hl 0 rfl) ?_
            refine tw_cne (tgt := 80) hC hk gv3 gv2 dL_areBases_39 (by decide) (fun _ hk => ?_) (fun _ hk => ?_)
            · refine lv_aload_n hC.1 hC.2.1 dL_areBases_42 rfl (lv_at hl 1 rfl) ?_
              refine lv_iload_n hC.1 hC.2.1 dL_areBases_43 rfl (lv_at hl 4 rfl) ?_
              refine lv_iconst (v := tw_I 0) hC.1 hC.2.1 dL_areBases_44 rfl ?_
              refine kX8_letter hC hR hL hk gx3 ((tw_rgL rfl)) mlL_70 ⟨by decide, by decide⟩ hl.1 (Nat.le_of_ble_eq_true rfl) ⟨Nat.zero_le _, Nat.zero_le _⟩ dL_areBases_45 (fun v4 H locs hR hL gv4 hk => ?_)
              refine lv_bipush (v := tw_I 97) hC.1 hC.2.1 dL_areBases_48 (by decide) ?_
              refine tw_clt (tgt := 80) hC hk gv4 ((tw_rgL rfl)) dL_areBases_50 (by decide) (fun _ hk => ?_) (fun _ hk => ?_)
              · cases hk
                exact ih _ out hf H locs _ gx1 gx3 gv2 hR hL (lv_sub hl [1, 2, 4, 0] rfl)
              · refine lv_aload_n hC.1 hC.2.1 dL_areBases_53 rfl (lv_at hl 1 rfl) ?_
                refine lv_iload_n hC.1 hC.2.1 dL_areBases_54 rfl (lv_at hl 4 rfl) ?_
                refine lv_iconst (v := tw_I 0) hC.1 hC.2.1 dL_areBases_55 rfl ?_
                refine kX8_letter hC hR hL hk gx3 ((tw_rgL rfl)) mlL_70 ⟨by decide, by decide⟩ hl.1 (Nat.le_of_ble_eq_true rfl) ⟨Nat.zero_le _, Nat.zero_le _⟩ dL_areBases_56 (fun v5 H locs hR hL gv5 hk => ?_)
                refine lv_bipush (v := tw_I 122) hC.1 hC.2.1 dL_areBases_59 (by decide) ?_
                refine tw_cgt (tgt := 80) hC hk gv5 ((tw_rgL rfl)) dL_areBases_61 (by decide) (fun _ hk => ?_) (fun _ hk => ?_)
                · cases hk
                  exact ih _ out hf H locs _ gx1 gx3 gv2 hR hL (lv_sub hl [1, 2, 4, 0] rfl)
                · refine lv_aload_n hC.1 hC.2.1 dL_areBases_64 rfl (lv_at hl 1 rfl) ?_
                  refine lv_iload_n hC.1 hC.2.1 dL_areBases_65 rfl (lv_at hl 4 rfl) ?_
                  refine lv_bipush (v := tw_I 8) hC.1 hC.2.1 dL_areBases_66 (by decide) ?_
                  refine kX8_letter hC hR hL hk gx3 ((tw_rgL rfl)) mlL_70 ⟨by decide, by decide⟩ hl.1 (Nat.le_of_ble_eq_true rfl) ⟨Nat.zero_le _, Nat.zero_le _⟩ dL_areBases_68 (fun v6 H locs hR hL gv6 hk => ?_)
                  refine lv_bipush (v := tw_I (-99)) hC.1 hC.2.1 dL_areBases_71 (by decide) ?_
                  refine tw_cne (tgt := 80) hC hk gv6 ((tw_rgL rfl)) dL_areBases_73 (by decide) (fun _ hk => ?_) (fun _ hk => ?_)
                  · refine lv_iconst (v := tw_I 1) hC.1 hC.2.1 dL_areBases_76 rfl ?_
                    refine lv_goto (tgt := 81) hC.1 hC.2.1 dL_areBases_77 (by decide) ?_
                    cases hk
                    exact ih _ out hf H locs _ gx1 gx3 gv2 ((tw_rgL rfl)) hR hL (lv_sub hl [1, 2, 4, 0] rfl)
                  · cases hk
                    exact ih _ out hf H locs _ gx1 gx3 gv2 hR hL (lv_sub hl [1, 2, 4, 0] rfl)
            · cases hk
              exact ih _ out hf H locs _ gx1 gx3 gv2 hR hL (lv_sub hl [1, 2, 4, 0] rfl)
      · obtain ⟨r, hk2, hX⟩ := tm_out_some hk
        rw [hX] at hf
        have hr : r = out := Option.some.inj hf
        rw [hr] at hk2
        exact sL_areBases_L102 G sz hC a1 x1 x2 h1 gx1 gx2 out hk2 H locs _ hR hL (lv_sub hl [0, 1, 2] rfl)
    · intro H locs ls gx1 gx3 gx4 hR hL hl
      dsimp only [fL_areBases_S1] at hk
      refine lv_iconst (v := tw_I 0) hC.1 hC.2.1 dL_areBases_80 rfl ?_
      cases hk
      exact ih _ out hf H locs _ gx1 gx3 gx4 ((tw_rgL rfl)) hR hL (lv_sub hl [0, 1, 2, 3] rfl)
    · intro H locs ls gx1 gx3 gx4 gs0 hR hL hl
      dsimp only [fL_areBases_S1] at hk
      refine lv_istore_n (lv' := [(2, .int (tw_I s0)), (0, .ref a1), (1, .int (tw_I x1)), (3, .int (tw_I x3)), (4, .int (tw_I x4))]) hC.1 hC.2.1 dL_areBases_81 rfl hl (by decide) rfl (fun ls hl => ?_)
      refine lv_iload_n hC.1 hC.2.1 dL_areBases_82 rfl (lv_at hl 2 rfl) ?_
      refine lv_iload hC.1 hC.2.1 dL_areBases_83 (lv_at hl 4 rfl) ?_
      refine lv_iload_n hC.1 hC.2.1 dL_areBases_85 rfl (lv_at hl 3 rfl) ?_
      refine tw_cne (tgt := 93) hC hk gx4 gx3 dL_areBases_86 (by decide) (fun _ hk => ?_) (fun _ hk => ?_)
      · refine lv_iconst (v := tw_I 0) hC.1 hC.2.1 dL_areBases_89 rfl ?_
        refine lv_goto (tgt := 94) hC.1 hC.2.1 dL_areBases_90 (by decide) ?_
        cases hk
        exact ih _ out hf H locs _ gs0 gx3 gx1 ((tw_rgL rfl)) hR hL (lv_sub hl [1, 0, 3] rfl)
      · refine lv_iconst (v := tw_I 1) hC.1 hC.2.1 dL_areBases_93 rfl ?_
        cases hk
        exact ih _ out hf H locs _ gs0 gx3 gx1 ((tw_rgL rfl)) hR hL (lv_sub hl [1, 0, 3] rfl)
    · intro H locs ls gx2 gx3 gs0 gs1 hR hL hl
      dsimp only [fL_areBases_S1] at hk
      refine tw_iadd hC dL_areBases_94 ?_
      refine lv_istore_n (lv' := [(1, .int (tw_I (tm_wr (s0 + s1)))), (0, .ref a1), (2, .int (tw_I x2)), (3, .int (tw_I x3))]) hC.1 hC.2.1 dL_areBases_95 rfl hl (by decide) rfl (fun ls hl => ?_)
      refine tw_iinc (lv' := [(3, .int (tw_I (tm_wr (x3 + 1)))), (1, .int (tw_I (tm_wr (s0 + s1)))), (0, .ref a1), (2, .int (tw_I x2))]) hC dL_areBases_96 hl (k := 3) rfl (by decide) rfl (fun ls hl => ?_)
      refine lv_goto (tgt := 6) hC.1 hC.2.1 dL_areBases_99 (by decide) ?_
      cases hk
      exact ih _ out hf H locs _ ((tm_wr_rg _)) gx2 ((tm_wr_rg _)) hR hL (lv_sub hl [2, 1, 3, 0] rfl)
theorem sL_areBases_L6 {l : Launch} {p : Program} {e : Env} {s : State} {m : MethodId} {args : Array Value} {below : List Frame} {meth : Method} {c : Code} (G : tw_G) (sz : Nat) (hC : tw_C G p s m args meth c RL cL_areBases 5 (some .boolean)) (a1 : Nat)  (x1 : Int) (x2 : Int) (x3 : Int) (h : tm_H) (gx1 : tm_rg x1) (gx2 : tm_rg x2) (gx3 : tm_rg x3) (out : Int × tm_H) (hk : fL_areBases_L6 a1 x1 x2 x3 h = some out) (H : Heap) (locs : List Loc) (ls : Array Slot) (hR : tw_Rel G sz h H) (hL : tw_L G locs) (hl : lv_has ls 5 [(0, .ref a1), (1, .int (tw_I x1)), (2, .int (tw_I x2)), (3, .int (tw_I x3))]) : W p l e rmL_areBases s m args below meth c H locs 0 0 (MQ below (tw_Qi G sz out.1 out.2) args s 0 0 (tw_F G)) (F0 m 6 ls []) := by
  obtain ⟨k, hk⟩ := tm_wl_iff.mp hk
  exact sL_areBases_S1 G sz hC a1  k (.inl ((x1, x2, x3, h))) out hk H locs ls gx1 gx2 gx3 hR hL hl
theorem sL_areBases_L80 {l : Launch} {p : Program} {e : Env} {s : State} {m : MethodId} {args : Array Value} {below : List Frame} {meth : Method} {c : Code} (G : tw_G) (sz : Nat) (hC : tw_C G p s m args meth c RL cL_areBases 5 (some .boolean)) (a1 : Nat)  (x1 : Int) (x3 : Int) (x4 : Int) (h : tm_H) (gx1 : tm_rg x1) (gx3 : tm_rg x3) (gx4 : tm_rg x4) (out : Int × tm_H) (hk : fL_areBases_L80 a1 x1 x3 x4 h = some out) (H : Heap) (locs : List Loc) (ls : Array Slot) (hR : tw_Rel G sz h H) (hL : tw_L G locs) (hl : lv_has ls 5 [(0, .ref a1), (1, .int (tw_I x1)), (3, .int (tw_I x3)), (4, .int (tw_I x4))]) : W p l e rmL_areBases s m args below meth c H locs 0 0 (MQ below (tw_Qi G sz out.1 out.2) args s 0 0 (tw_F G)) (F0 m 80 ls []) := by
  obtain ⟨k, hk⟩ := tm_wl_iff.mp hk
  exact sL_areBases_S1 G sz hC a1  k (.inr (.inl ((x1, x3, x4, h)))) out hk H locs ls gx1 gx3 gx4 hR hL hl
theorem sL_areBases_L81 {l : Launch} {p : Program} {e : Env} {s : State} {m : MethodId} {args : Array Value} {below : List Frame} {meth : Method} {c : Code} (G : tw_G) (sz : Nat) (hC : tw_C G p s m args meth c RL cL_areBases 5 (some .boolean)) (a1 : Nat)  (x1 : Int) (x3 : Int) (x4 : Int) (s0 : Int) (h : tm_H) (gx1 : tm_rg x1) (gx3 : tm_rg x3) (gx4 : tm_rg x4) (gs0 : tm_rg s0) (out : Int × tm_H) (hk : fL_areBases_L81 a1 x1 x3 x4 s0 h = some out) (H : Heap) (locs : List Loc) (ls : Array Slot) (hR : tw_Rel G sz h H) (hL : tw_L G locs) (hl : lv_has ls 5 [(0, .ref a1), (1, .int (tw_I x1)), (3, .int (tw_I x3)), (4, .int (tw_I x4))]) : W p l e rmL_areBases s m args below meth c H locs 0 0 (MQ below (tw_Qi G sz out.1 out.2) args s 0 0 (tw_F G)) (F0 m 81 ls [.int (tw_I s0)]) := by
  obtain ⟨k, hk⟩ := tm_wl_iff.mp hk
  exact sL_areBases_S1 G sz hC a1  k (.inr (.inr (.inl ((x1, x3, x4, s0, h))))) out hk H locs ls gx1 gx3 gx4 gs0 hR hL hl
theorem sL_areBases_L94 {l : Launch} {p : Program} {e : Env} {s : State} {m : MethodId} {args : Array Value} {below : List Frame} {meth : Method} {c : Code} (G : tw_G) (sz : Nat) (hC : tw_C G p s m args meth c RL cL_areBases 5 (some .boolean)) (a1 : Nat)  (x2 : Int) (x3 : Int) (s0 : Int) (s1 : Int) (h : tm_H) (gx2 : tm_rg x2) (gx3 : tm_rg x3) (gs0 : tm_rg s0) (gs1 : tm_rg s1) (out : Int × tm_H) (hk : fL_areBases_L94 a1 x2 x3 s0 s1 h = some out) (H : Heap) (locs : List Loc) (ls : Array Slot) (hR : tw_Rel G sz h H) (hL : tw_L G locs) (hl : lv_has ls 5 [(0, .ref a1), (2, .int (tw_I x2)), (3, .int (tw_I x3))]) : W p l e rmL_areBases s m args below meth c H locs 0 0 (MQ below (tw_Qi G sz out.1 out.2) args s 0 0 (tw_F G)) (F0 m 94 ls [.int (tw_I s1), .int (tw_I s0)]) := by
  obtain ⟨k, hk⟩ := tm_wl_iff.mp hk
  exact sL_areBases_S1 G sz hC a1  k (.inr (.inr (.inr ((x2, x3, s0, s1, h))))) out hk H locs ls gx2 gx3 gs0 gs1 hR hL hl
set_option maxRecDepth 100000 in
set_option maxHeartbeats 4000000 in
theorem cL_areBases_ok (l : Launch) (G : tw_G) (sz : Nat) (a1 : Nat)  (h : tm_H) (out : Int × tm_H) (hk : fL_areBases a1 h = some out) : Met l yL_areBases (tw_WS yL_areBases cL_areBases 5 (some .boolean)) rmL_areBases (va_Pc [.ref a1] (tw_Pre G sz h)) (tw_Qi G sz out.1 out.2) 0 0 (tw_F G) := by
  refine tw_met (by decide +kernel) (Nat.le_of_ble_eq_true rfl) ?_
  intro p e s m args below meth c H ls hC hnm hR hl
  unfold fL_areBases at hk
  have hl : lv_has ls 5 [(0, .ref a1)] := hl
  have hL : tw_L G [] := fun q z => by cases z
  generalize hlc : ([] : List Loc) = locs at hL ⊢
  refine lv_iconst (v := tw_I 0) hC.1 hC.2.1 dL_areBases_0 rfl ?_
  refine lv_istore_n (lv' := [(1, .int (tw_I 0)), (0, .ref a1)]) hC.1 hC.2.1 dL_areBases_1 rfl hl (by decide) rfl (fun ls hl => ?_)
  refine lv_iconst (v := tw_I 1) hC.1 hC.2.1 dL_areBases_2 rfl ?_
  refine lv_istore_n (lv' := [(2, .int (tw_I 1)), (1, .int (tw_I 0)), (0, .ref a1)]) hC.1 hC.2.1 dL_areBases_3 rfl hl (by decide) rfl (fun ls hl => ?_)
  refine lv_iconst (v := tw_I 0) hC.1 hC.2.1 dL_areBases_4 rfl ?_
  refine lv_istore_n (lv' := [(3, .int (tw_I 0)), (2, .int (tw_I 1)), (1, .int (tw_I 0)), (0, .ref a1)]) hC.1 hC.2.1 dL_areBases_5 rfl hl (by decide) rfl (fun ls hl => ?_)
  exact sL_areBases_L6 G sz hC a1 0 1 0 h ((tw_rgL rfl)) ((tw_rgL rfl)) ((tw_rgL rfl)) out hk H locs _ hR hL (lv_sub hl [3, 2, 1, 0] rfl)
set_option maxRecDepth 100000 in
theorem kL_areBases {l : Launch} {p : Program} {e : Env} {R : Room} {s : State} {m : MethodId} {args : Array Value} {below : List Frame} {meth : Method} {c : Code} {H : Heap} {locs : List Loc} {cells slots : Nat} {Q : State → Prop} {cc : ByteArray} {pc nL idx : Nat} {ls : Array Slot} {rest : List Value} {G : tw_G} {h : tm_H} {own : String} {ret : Option FieldType} {α : Type} {x : α} {sz : Nat} {a1 : Nat} (hC : tw_C G p s m args meth c own cc nL ret) (hR : tw_Rel G sz h H) (hL : tw_L G locs) {F : Int × tm_H → Option α} (hk : (fL_areBases a1 h).bind F = some x)  (hl : tw_mL own idx yL_areBases) (hRm : rmL_areBases.frames + 1 ≤ R.frames ∧ 8 + (5 + 11) + rmL_areBases.locals ≤ R.locals) (hsz : ls.size = nL) (hW : (rest.map fun v => v.category).sum ≤ 8) (hf : cells + 0 ≤ R.cells ∧ slots + 0 ≤ R.slots) (hdg : decode cc pc = .ok (.invokestatic idx, 3)) (kk : ∀ (r : Int) (h1 : tm_H) (H1 : Heap) (locs1 : List Loc), tw_Rel G sz h1 H1 → tw_L G locs1 → tm_rg r → F (r, h1) = some x → W p l e R s m args below meth c H1 locs1 (cells + 0) (slots + 0) Q (F0 m (pc + 3) ls (.int (tw_I r) :: rest))) : W p l e R s m args below meth c H locs cells slots Q (F0 m pc ls (.ref a1 :: rest)) := by
  obtain ⟨r, hr, hF⟩ := Option.bind_eq_some_iff.mp hk
  exact tw_backi (tw_runS hC hR (cL_areBases_ok l G sz a1  h r hr) (n := 1) ⟨tw_in_TB 631 (by decide +kernel) rfl, tw_in_TB 8 (by decide +kernel) rfl, by decide +kernel⟩ (tw_in_TB 630 (by decide +kernel) rfl) hl ⟨rfl, rfl⟩ hRm rfl hsz rfl hW hdg hf) hL (fun H1 locs1 a b g => kk r.1 r.2 H1 locs1 a b g hF)
