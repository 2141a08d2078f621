section
/-! part 17: the reference's constructor -/
def zx_bm0 : zx_S := (0, [some (.inr (.inr (1, 63)))], [], zx_hX ++ [.inl (8, [.inl 0, .inl 0, .inl 0, .inl 0, .inl 0, .inl 0, .inl 0, .inl 0, .inl 0, .inl 0, .inl 0, .inl 0, .inl 0, .inl 0, .inr (.inr (0, 0)), .inr (.inr (0, 0)), .inr (.inr (0, 0)), .inr (.inr (0, 0)), .inr (.inr (0, 0)), .inr (.inr (0, 0)), .inr (.inr (0, 0)), .inr (.inr (0, 0)), .inr (.inr (0, 0)), .inr (.inr (0, 0)), .inr (.inr (0, 0)), .inr (.inr (0, 0)), .inr (.inr (0, 0)), .inr (.inr (0, 0)), .inr (.inr (0, 0)), .inl 0, .inl 0, .inl 0, .inl 0, .inl 0, .inr (.inr (0, 0)), .inr (.inr (0, 0)), .inr (.inr (0, 0)), .inr (.inr (0, 0)), .inr (.inr (0, 0)), .inr (.inr (0, 0)), .inl 0, .inl 0, .inl 0, .inl 0, .inl 0, .inl 0, .inl 0, .inl 0, .inl 0, .inl 0, .inr (.inr (0, 0)), .inl 0, .inl 0])], 0, 0)
def zx_bm6 : zx_S := (136, [some (.inr (.inr (1, 63)))], [.inr (.inr (1, 74)), .inr (.inr (1, 63))], zx_hX ++ [.inl (8, [.inl 0, .inl 0, .inl (-1), .inl 3, .inl 3, .inl 4, .inl 0, .inl 2, .inl 1, .inl 20, .inl 0, .inl 0, .inl 1, .inl (-1), .inr (.inr (1, 64)), .inr (.inr (1, 65)), .inr (.inr (1, 66)), .inr (.inr (1, 67)), .inr (.inr (1, 68)), .inr (.inr (1, 69)), .inr (.inr (1, 70)), .inr (.inr (1, 71)), .inr (.inr (1, 72)), .inr (.inr (1, 73)), .inr (.inr (0, 0)), .inr (.inr (0, 0)), .inr (.inr (0, 0)), .inr (.inr (0, 0)), .inr (.inr (0, 0)), .inl 0, .inl 0, .inl 0, .inl 0, .inl 0, .inr (.inr (0, 0)), .inr (.inr (0, 0)), .inr (.inr (0, 0)), .inr (.inr (0, 0)), .inr (.inr (0, 0)), .inr (.inr (0, 0)), .inl 0, .inl 0, .inl 0, .inl 0, .inl 0, .inl 0, .inl 0, .inl 0, .inl 0, .inl 0, .inr (.inr (0, 0)), .inl 0, .inl 0]),
  .inr (0, .inl (List.replicate 8 0)),
  .inr (0, .inl (List.replicate 24 0)),
  .inr (0, .inl (List.replicate 24 0)),
  .inr (0, .inl (List.replicate 6 0)),
  .inr (0, .inl (List.replicate 6 0)),
  .inr (0, .inl (List.replicate 6 0)),
  .inr (0, .inl (List.replicate 8 0)),
  .inr (0, .inl (List.replicate 8 0)),
  .inr (0, .inl (List.replicate 8 0)),
  .inr (0, .inl (List.replicate 8 0)),
  .inr (1, .inr (.inl (List.replicate 1280 0)))], 11, 1386)
set_option maxRecDepth 1000000 in
theorem zx_bm6_ok : zx_seq (zx_it (zx_m 124) 72 zx_bm0) zx_bm6 = true := by decide +kernel
def zx_bm12 : zx_S := (240, [some (.inr (.inr (1, 63)))], [.inr (.inr (1, 76)), .inr (.inr (1, 63))], zx_hX ++ [.inl (8, [.inl 0, .inl 0, .inl (-1), .inl 3, .inl 3, .inl 4, .inl 0, .inl 2, .inl 1, .inl 20, .inl 0, .inl 0, .inl 1, .inl (-1), .inr (.inr (1, 64)), .inr (.inr (1, 65)), .inr (.inr (1, 66)), .inr (.inr (1, 67)), .inr (.inr (1, 68)), .inr (.inr (1, 69)), .inr (.inr (1, 70)), .inr (.inr (1, 71)), .inr (.inr (1, 72)), .inr (.inr (1, 73)), .inr (.inr (1, 74)), .inr (.inr (1, 75)), .inr (.inr (0, 0)), .inr (.inr (0, 0)), .inr (.inr (0, 0)), .inl 0, .inl 0, .inl 0, .inl 0, .inl 0, .inr (.inr (0, 0)), .inr (.inr (0, 0)), .inr (.inr (0, 0)), .inr (.inr (0, 0)), .inr (.inr (0, 0)), .inr (.inr (0, 0)), .inl 0, .inl 0, .inl 0, .inl 0, .inl 0, .inl 0, .inl 0, .inl 0, .inl 0, .inl 0, .inr (.inr (0, 0)), .inl 0, .inl 0]),
  .inr (0, .inl (List.replicate 8 0)),
  .inr (0, .inl (List.replicate 24 0)),
  .inr (0, .inl (List.replicate 24 0)),
  .inr (0, .inl (List.replicate 6 0)),
  .inr (0, .inl (List.replicate 6 0)),
  .inr (0, .inl (List.replicate 6 0)),
  .inr (0, .inl (List.replicate 8 0)),
  .inr (0, .inl (List.replicate 8 0)),
  .inr (0, .inl (List.replicate 8 0)),
  .inr (0, .inl (List.replicate 8 0)),
  .inr (1, .inr (.inl (List.replicate 1280 0))),
  .inr (1, .inr (.inl (List.replicate 160 0))),
  .inr (0, .inl [117, 112, 32, 0, 100, 111, 119, 110, 32, 0, 115, 116, 105, 108, 101, 0, 0, 0, 0, 0, 0, 0, 0, 0, 0, 0, 0, 0, 0, 0, 0, 0, 0, 0, 0, 0, 0, 0, 0, 0, 0, 0, 0, 0, 0, 0, 0, 0, 0, 0, 0, 0, 0, 0, 0, 0, 0, 0, 0, 0, 0, 0, 0, 0, 0, 0, 0, 0, 0, 0, 0, 0, 0, 0, 0])], 13, 1621)
set_option maxRecDepth 1000000 in
theorem zx_bm12_ok : zx_seq (zx_it (zx_m 124) 72 zx_bm6) zx_bm12 = true := by decide +kernel
def zx_bm18 : zx_S := (346, [some (.inr (.inr (1, 63)))], [.inr (.inr (1, 76)), .inr (.inr (1, 63))], zx_hX ++ [.inl (8, [.inl 0, .inl 0, .inl (-1), .inl 3, .inl 3, .inl 4, .inl 0, .inl 2, .inl 1, .inl 20, .inl 0, .inl 0, .inl 1, .inl (-1), .inr (.inr (1, 64)), .inr (.inr (1, 65)), .inr (.inr (1, 66)), .inr (.inr (1, 67)), .inr (.inr (1, 68)), .inr (.inr (1, 69)), .inr (.inr (1, 70)), .inr (.inr (1, 71)), .inr (.inr (1, 72)), .inr (.inr (1, 73)), .inr (.inr (1, 74)), .inr (.inr (1, 75)), .inr (.inr (0, 0)), .inr (.inr (0, 0)), .inr (.inr (0, 0)), .inl 0, .inl 0, .inl 0, .inl 0, .inl 0, .inr (.inr (0, 0)), .inr (.inr (0, 0)), .inr (.inr (0, 0)), .inr (.inr (0, 0)), .inr (.inr (0, 0)), .inr (.inr (0, 0)), .inl 0, .inl 0, .inl 0, .inl 0, .inl 0, .inl 0, .inl 0, .inl 0, .inl 0, .inl 0, .inr (.inr (0, 0)), .inl 0, .inl 0]),
  .inr (0, .inl (List.replicate 8 0)),
  .inr (0, .inl (List.replicate 24 0)),
  .inr (0, .inl (List.replicate 24 0)),
  .inr (0, .inl (List.replicate 6 0)),
  .inr (0, .inl (List.replicate 6 0)),
  .inr (0, .inl (List.replicate 6 0)),
  .inr (0, .inl (List.replicate 8 0)),
  .inr (0, .inl (List.replicate 8 0)),
  .inr (0, .inl (List.replicate 8 0)),
  .inr (0, .inl (List.replicate 8 0)),
  .inr (1, .inr (.inl (List.replicate 1280 0))),
  .inr (1, .inr (.inl (List.replicate 160 0))),
  .inr (0, .inl [117, 112, 32, 0, 100, 111, 119, 110, 32, 0, 115, 116, 105, 108, 101, 0, 112, 101, 114, 115, 111, 110, 32, 0, 116, 105, 114, 101, 100, 32, 0, 98, 97, 103, 0, 0, 0, 0, 0, 0, 0, 0, 0, 0, 0, 0, 0, 0, 0, 0, 0, 0, 0, 0, 0, 0, 0, 0, 0, 0, 0, 0, 0, 0, 0, 0, 0, 0, 0, 0, 0, 0, 0, 0, 0])], 13, 1621)
set_option maxRecDepth 1000000 in
theorem zx_bm18_ok : zx_seq (zx_it (zx_m 124) 72 zx_bm12) zx_bm18 = true := by decide +kernel
def zx_bm24 : zx_S := (451, [some (.inr (.inr (1, 63)))], [.inr (.inr (1, 76)), .inr (.inr (1, 63))], zx_hX ++ [.inl (8, [.inl 0, .inl 0, .inl (-1), .inl 3, .inl 3, .inl 4, .inl 0, .inl 2, .inl 1, .inl 20, .inl 0, .inl 0, .inl 1, .inl (-1), .inr (.inr (1, 64)), .inr (.inr (1, 65)), .inr (.inr (1, 66)), .inr (.inr (1, 67)), .inr (.inr (1, 68)), .inr (.inr (1, 69)), .inr (.inr (1, 70)), .inr (.inr (1, 71)), .inr (.inr (1, 72)), .inr (.inr (1, 73)), .inr (.inr (1, 74)), .inr (.inr (1, 75)), .inr (.inr (0, 0)), .inr (.inr (0, 0)), .inr (.inr (0, 0)), .inl 0, .inl 0, .inl 0, .inl 0, .inl 0, .inr (.inr (0, 0)), .inr (.inr (0, 0)), .inr (.inr (0, 0)), .inr (.inr (0, 0)), .inr (.inr (0, 0)), .inr (.inr (0, 0)), .inl 0, .inl 0, .inl 0, .inl 0, .inl 0, .inl 0, .inl 0, .inl 0, .inl 0, .inl 0, .inr (.inr (0, 0)), .inl 0, .inl 0]),
  .inr (0, .inl (List.replicate 8 0)),
  .inr (0, .inl (List.replicate 24 0)),
  .inr (0, .inl (List.replicate 24 0)),
  .inr (0, .inl (List.replicate 6 0)),
  .inr (0, .inl (List.replicate 6 0)),
  .inr (0, .inl (List.replicate 6 0)),
  .inr (0, .inl (List.replicate 8 0)),
  .inr (0, .inl (List.replicate 8 0)),
  .inr (0, .inl (List.replicate 8 0)),
  .inr (0, .inl (List.replicate 8 0)),
  .inr (1, .inr (.inl (List.replicate 1280 0))),
  .inr (1, .inr (.inl (List.replicate 160 0))),
  .inr (0, .inl [117, 112, 32, 0, 100, 111, 119, 110, 32, 0, 115, 116, 105, 108, 101, 0, 112, 101, 114, 115, 111, 110, 32, 0, 116, 105, 114, 101, 100, 32, 0, 98, 97, 103, 32, 0, 108, 101, 103, 115, 32, 0, 110, 97, 112, 32, 0, 119, 111, 114, 110, 32, 0, 0, 0, 0, 0, 0, 0, 0, 0, 0, 0, 0, 0, 0, 0, 0, 0, 0, 0, 0, 0, 0, 0])], 13, 1621)
set_option maxRecDepth 1000000 in
theorem zx_bm24_ok : zx_seq (zx_it (zx_m 124) 72 zx_bm18) zx_bm24 = true := by decide +kernel
def zx_bm30 : zx_S := (556, [some (.inr (.inr (1, 63)))], [.inr (.inr (1, 76)), .inr (.inr (1, 63))], zx_hX ++ [.inl (8, [.inl 0, .inl 0, .inl (-1), .inl 3, .inl 3, .inl 4, .inl 0, .inl 2, .inl 1, .inl 20, .inl 0, .inl 0, .inl 1, .inl (-1), .inr (.inr (1, 64)), .inr (.inr (1, 65)), .inr (.inr (1, 66)), .inr (.inr (1, 67)), .inr (.inr (1, 68)), .inr (.inr (1, 69)), .inr (.inr (1, 70)), .inr (.inr (1, 71)), .inr (.inr (1, 72)), .inr (.inr (1, 73)), .inr (.inr (1, 74)), .inr (.inr (1, 75)), .inr (.inr (0, 0)), .inr (.inr (0, 0)), .inr (.inr (0, 0)), .inl 0, .inl 0, .inl 0, .inl 0, .inl 0, .inr (.inr (0, 0)), .inr (.inr (0, 0)), .inr (.inr (0, 0)), .inr (.inr (0, 0)), .inr (.inr (0, 0)), .inr (.inr (0, 0)), .inl 0, .inl 0, .inl 0, .inl 0, .inl 0, .inl 0, .inl 0, .inl 0, .inl 0, .inl 0, .inr (.inr (0, 0)), .inl 0, .inl 0]),
  .inr (0, .inl (List.replicate 8 0)),
  .inr (0, .inl (List.replicate 24 0)),
  .inr (0, .inl (List.replicate 24 0)),
  .inr (0, .inl (List.replicate 6 0)),
  .inr (0, .inl (List.replicate 6 0)),
  .inr (0, .inl (List.replicate 6 0)),
  .inr (0, .inl (List.replicate 8 0)),
  .inr (0, .inl (List.replicate 8 0)),
  .inr (0, .inl (List.replicate 8 0)),
  .inr (0, .inl (List.replicate 8 0)),
  .inr (1, .inr (.inl (List.replicate 1280 0))),
  .inr (1, .inr (.inl (List.replicate 160 0))),
  .inr (0, .inl [117, 112, 32, 0, 100, 111, 119, 110, 32, 0, 115, 116, 105, 108, 101, 0, 112, 101, 114, 115, 111, 110, 32, 0, 116, 105, 114, 101, 100, 32, 0, 98, 97, 103, 32, 0, 108, 101, 103, 115, 32, 0, 110, 97, 112, 32, 0, 119, 111, 114, 110, 32, 0, 98, 105, 115, 99, 117, 105, 116, 115, 32, 0, 114, 97, 99, 101, 115, 32, 0, 0, 0, 0, 0, 0])], 13, 1621)
set_option maxRecDepth 1000000 in
theorem zx_bm30_ok : zx_seq (zx_it (zx_m 124) 72 zx_bm24) zx_bm30 = true := by decide +kernel
def zx_bm36 : zx_S := (647, [some (.inr (.inr (1, 63)))], [.inr (.inr (1, 77)), .inr (.inr (1, 63))], zx_hX ++ [.inl (8, [.inl 0, .inl 0, .inl (-1), .inl 3, .inl 3, .inl 4, .inl 0, .inl 2, .inl 1, .inl 20, .inl 0, .inl 0, .inl 1, .inl (-1), .inr (.inr (1, 64)), .inr (.inr (1, 65)), .inr (.inr (1, 66)), .inr (.inr (1, 67)), .inr (.inr (1, 68)), .inr (.inr (1, 69)), .inr (.inr (1, 70)), .inr (.inr (1, 71)), .inr (.inr (1, 72)), .inr (.inr (1, 73)), .inr (.inr (1, 74)), .inr (.inr (1, 75)), .inr (.inr (1, 76)), .inr (.inr (0, 0)), .inr (.inr (0, 0)), .inl 0, .inl 0, .inl 0, .inl 0, .inl 0, .inr (.inr (0, 0)), .inr (.inr (0, 0)), .inr (.inr (0, 0)), .inr (.inr (0, 0)), .inr (.inr (0, 0)), .inr (.inr (0, 0)), .inl 0, .inl 0, .inl 0, .inl 0, .inl 0, .inl 0, .inl 0, .inl 0, .inl 0, .inl 0, .inr (.inr (0, 0)), .inl 0, .inl 0]),
  .inr (0, .inl (List.replicate 8 0)),
  .inr (0, .inl (List.replicate 24 0)),
  .inr (0, .inl (List.replicate 24 0)),
  .inr (0, .inl (List.replicate 6 0)),
  .inr (0, .inl (List.replicate 6 0)),
  .inr (0, .inl (List.replicate 6 0)),
  .inr (0, .inl (List.replicate 8 0)),
  .inr (0, .inl (List.replicate 8 0)),
  .inr (0, .inl (List.replicate 8 0)),
  .inr (0, .inl (List.replicate 8 0)),
  .inr (1, .inr (.inl (List.replicate 1280 0))),
  .inr (1, .inr (.inl (List.replicate 160 0))),
  .inr (0, .inl [117, 112, 32, 0, 100, 111, 119, 110, 32, 0, 115, 116, 105, 108, 101, 0, 112, 101, 114, 115, 111, 110, 32, 0, 116, 105, 114, 101, 100, 32, 0, 98, 97, 103, 32, 0, 108, 101, 103, 115, 32, 0, 110, 97, 112, 32, 0, 119, 111, 114, 110, 32, 0, 98, 105, 115, 99, 117, 105, 116, 115, 32, 0, 114, 97, 99, 101, 115, 32, 0, 97, 99, 116, 32, 0]),
  .inr (0, .inl [1, 1, 0, 2, 2, 1, 1, 1, 1, 1, 1, 1])], 14, 1633)
set_option maxRecDepth 1000000 in
theorem zx_bm36_ok : zx_seq (zx_it (zx_m 124) 72 zx_bm30) zx_bm36 = true := by decide +kernel
def zx_bm39 : zx_S := (712, [some (.inr (.inr (1, 63)))], [], zx_hX ++ [.inl (8, [.inl 0, .inl 0, .inl (-1), .inl 3, .inl 3, .inl 4, .inl 0, .inl 2, .inl 1, .inl 20, .inl 0, .inl 0, .inl 1, .inl (-1), .inr (.inr (1, 64)), .inr (.inr (1, 65)), .inr (.inr (1, 66)), .inr (.inr (1, 67)), .inr (.inr (1, 68)), .inr (.inr (1, 69)), .inr (.inr (1, 70)), .inr (.inr (1, 71)), .inr (.inr (1, 72)), .inr (.inr (1, 73)), .inr (.inr (1, 74)), .inr (.inr (1, 75)), .inr (.inr (1, 76)), .inr (.inr (1, 77)), .inr (.inr (1, 78)), .inl 0, .inl 0, .inl 0, .inl 0, .inl 0, .inr (.inr (1, 79)), .inr (.inr (1, 80)), .inr (.inr (1, 81)), .inr (.inr (1, 82)), .inr (.inr (1, 83)), .inr (.inr (1, 84)), .inl 0, .inl 0, .inl 0, .inl 0, .inl 0, .inl 0, .inl 0, .inl 0, .inl 0, .inl 0, .inr (.inr (1, 85)), .inl 0, .inl 0]),
  .inr (0, .inl (List.replicate 8 0)),
  .inr (0, .inl (List.replicate 24 0)),
  .inr (0, .inl (List.replicate 24 0)),
  .inr (0, .inl (List.replicate 6 0)),
  .inr (0, .inl (List.replicate 6 0)),
  .inr (0, .inl (List.replicate 6 0)),
  .inr (0, .inl (List.replicate 8 0)),
  .inr (0, .inl (List.replicate 8 0)),
  .inr (0, .inl (List.replicate 8 0)),
  .inr (0, .inl (List.replicate 8 0)),
  .inr (1, .inr (.inl (List.replicate 1280 0))),
  .inr (1, .inr (.inl (List.replicate 160 0))),
  .inr (0, .inl [117, 112, 32, 0, 100, 111, 119, 110, 32, 0, 115, 116, 105, 108, 101, 0, 112, 101, 114, 115, 111, 110, 32, 0, 116, 105, 114, 101, 100, 32, 0, 98, 97, 103, 32, 0, 108, 101, 103, 115, 32, 0, 110, 97, 112, 32, 0, 119, 111, 114, 110, 32, 0, 98, 105, 115, 99, 117, 105, 116, 115, 32, 0, 114, 97, 99, 101, 115, 32, 0, 97, 99, 116, 32, 0]),
  .inr (0, .inl [1, 1, 0, 2, 2, 1, 1, 1, 1, 1, 1, 1]),
  .inr (0, .inl (List.replicate 2 0)),
  .inr (0, .inl (List.replicate 90 0)),
  .inr (0, .inl (List.replicate 90 0)),
  .inr (0, .inl (List.replicate 90 0)),
  .inr (0, .inl (List.replicate 450 0)),
  .inr (0, .inl (List.replicate 4 0)),
  .inr (0, .inl (List.replicate 4 0)),
  .inr (0, .inl (List.replicate 20 0))], 22, 2383)
set_option maxRecDepth 1000000 in
theorem zx_bm39_ok : zx_seq (zx_it (zx_m 124) 33 zx_bm36) zx_bm39 = true := by decide +kernel
def zx_hM : List zx_C := zx_hX ++ [.inl (8, [.inl 0, .inl 0, .inl (-1), .inl 3, .inl 3, .inl 4, .inl 0, .inl 2, .inl 1, .inl 20, .inl 0, .inl 0, .inl 1, .inl (-1), .inr (.inr (1, 64)), .inr (.inr (1, 65)), .inr (.inr (1, 66)), .inr (.inr (1, 67)), .inr (.inr (1, 68)), .inr (.inr (1, 69)), .inr (.inr (1, 70)), .inr (.inr (1, 71)), .inr (.inr (1, 72)), .inr (.inr (1, 73)), .inr (.inr (1, 74)), .inr (.inr (1, 75)), .inr (.inr (1, 76)), .inr (.inr (1, 77)), .inr (.inr (1, 78)), .inl 0, .inl 0, .inl 0, .inl 0, .inl 0, .inr (.inr (1, 79)), .inr (.inr (1, 80)), .inr (.inr (1, 81)), .inr (.inr (1, 82)), .inr (.inr (1, 83)), .inr (.inr (1, 84)), .inl 0, .inl 0, .inl 0, .inl 0, .inl 0, .inl 0, .inl 0, .inl 0, .inl 0, .inl 0, .inr (.inr (1, 85)), .inl 0, .inl 0]),
  .inr (0, .inl (List.replicate 8 0)),
  .inr (0, .inl (List.replicate 24 0)),
  .inr (0, .inl (List.replicate 24 0)),
  .inr (0, .inl (List.replicate 6 0)),
  .inr (0, .inl (List.replicate 6 0)),
  .inr (0, .inl (List.replicate 6 0)),
  .inr (0, .inl (List.replicate 8 0)),
  .inr (0, .inl (List.replicate 8 0)),
  .inr (0, .inl (List.replicate 8 0)),
  .inr (0, .inl (List.replicate 8 0)),
  .inr (1, .inr (.inl (List.replicate 1280 0))),
  .inr (1, .inr (.inl (List.replicate 160 0))),
  .inr (0, .inl [117, 112, 32, 0, 100, 111, 119, 110, 32, 0, 115, 116, 105, 108, 101, 0, 112, 101, 114, 115, 111, 110, 32, 0, 116, 105, 114, 101, 100, 32, 0, 98, 97, 103, 32, 0, 108, 101, 103, 115, 32, 0, 110, 97, 112, 32, 0, 119, 111, 114, 110, 32, 0, 98, 105, 115, 99, 117, 105, 116, 115, 32, 0, 114, 97, 99, 101, 115, 32, 0, 97, 99, 116, 32, 0]),
  .inr (0, .inl [1, 1, 0, 2, 2, 1, 1, 1, 1, 1, 1, 1]),
  .inr (0, .inl (List.replicate 2 0)),
  .inr (0, .inl (List.replicate 90 0)),
  .inr (0, .inl (List.replicate 90 0)),
  .inr (0, .inl (List.replicate 90 0)),
  .inr (0, .inl (List.replicate 450 0)),
  .inr (0, .inl (List.replicate 4 0)),
  .inr (0, .inl (List.replicate 4 0)),
  .inr (0, .inl (List.replicate 20 0))]
end
section
/-! part 18: longer runs, deeper runs; runs put together; a state's run with its end (zx_T), a method's (zx_M) -/
section
variable {sc : zx_Sc} {t : zx_MT} {run run' : Nat → List zx_V → List zx_C → Option zx_R} {pc nc ns : Nat} {L : List (Option zx_V)} {S : List zx_V} {h : List zx_C} {x : zx_S ⊕ zx_R}
theorem zx_m_ret (hr : ∀ k as h r, run k as h = some r → run' k as h = some r) {k : Nat} {as r : List zx_V} {h2 : List zx_C} (h1 : zx_ret pc L r h nc ns (run k as h2) = some x) : zx_ret pc L r h nc ns (run' k as h2) = some x := by
  cases e : run k as h2 with
  | none => rw [e] at h1; cases h1
  | some q => rw [hr _ _ _ _ e]; rw [e] at h1; exact h1
theorem zx_m_iv (hr : ∀ k as h r, run k as h = some r → run' k as h = some r) {o ix : Nat} : zx_iv run o ix pc L S h nc ns = some x → zx_iv run' o ix pc L S h nc ns = some x := by
  unfold zx_iv
  cases e0 : zx_lk zx_lM o ix with
  | none => exact id
  | some q =>
    obtain ⟨k, np⟩ := q
    show (if _ then _ else none) = some x → (if _ then _ else none) = some x
    by_cases g : zx_mk (zx_m k) = 0 ∧ k < 221
    · rw [if_pos g, if_pos g]
      cases e1 : S.drop (zx_mp (zx_m k)) with
      | nil => exact id
      | cons v r =>
        rcases v with y | y | ⟨tg, a⟩
        · exact id
        · exact id
        · match tg with
          | 0 => exact id
          | 1 =>
            cases e2 : h[a]? with
            | none => intro h1; simp only [e2] at h1; cases h1
            | some c =>
              rcases c with ⟨ci, fs⟩ | c
              · simp only [e2]
                by_cases g2 : ci = zx_mo (zx_m k) ∧ ci < 9 ∧ zx_cs r ≤ 8 ∧ zx_mp (zx_m k) ≤ S.length
                · rw [if_pos g2, if_pos g2]
                  exact zx_m_ret hr
                · rw [if_neg g2, if_neg g2]
                  exact id
              · intro h1; simp only [e2] at h1; cases h1
          | 2 =>
            show (if _ then _ else none) = some x → (if _ then _ else none) = some x
            by_cases g2 : a < 12 ∧ zx_mo (zx_m k) = 11 ∧ zx_cs r ≤ 8 ∧ zx_mp (zx_m k) ≤ S.length
            · rw [if_pos g2, if_pos g2]
              exact zx_m_ret hr
            · rw [if_neg g2, if_neg g2]
              exact id
          | n + 3 => exact id
    · rw [if_neg g, if_neg g]
      exact id
theorem zx_m_is (hr : ∀ k as h r, run k as h = some r → run' k as h = some r) {o ix : Nat} : zx_is run o ix pc L S h nc ns = some x → zx_is run' o ix pc L S h nc ns = some x := by
  unfold zx_is
  cases e0 : zx_lk zx_lM o ix with
  | none => exact id
  | some q =>
    obtain ⟨k, np⟩ := q
    show (if _ then _ else _) = some x → (if _ then _ else _) = some x
    by_cases g : zx_mk (zx_m k) = 1 ∧ k < 221 ∧ zx_cs (S.drop (zx_mp (zx_m k))) ≤ 8 ∧ zx_mp (zx_m k) ≤ S.length
    · rw [if_pos g, if_pos g]
      exact zx_m_ret hr
    · rw [if_neg g, if_neg g]
      exact id
theorem zx_m_ii (hr : ∀ k as h r, run k as h = some r → run' k as h = some r) {o ix : Nat} : zx_ii run o ix pc L S h nc ns = some x → zx_ii run' o ix pc L S h nc ns = some x := by
  unfold zx_ii
  cases e0 : zx_lk zx_lM o ix with
  | none => exact id
  | some q =>
    obtain ⟨k, np⟩ := q
    show (if _ then _ else none) = some x → (if _ then _ else none) = some x
    by_cases g : zx_mk (zx_m k) = 2 ∧ k < 221
    · rw [if_pos g, if_pos g]
      cases e1 : S.drop (zx_mp (zx_m k)) with
      | nil => exact id
      | cons v r =>
        rcases v with y | y | ⟨tg, a⟩
        · exact id
        · exact id
        · match tg with
          | 0 => exact id
          | 1 =>
            show (if _ then _ else none) = some x → (if _ then _ else none) = some x
            by_cases g2 : zx_cs r ≤ 8 ∧ zx_mp (zx_m k) ≤ S.length
            · rw [if_pos g2, if_pos g2]
              exact zx_m_ret hr
            · rw [if_neg g2, if_neg g2]
              exact id
          | n + 2 => exact id
    · rw [if_neg g, if_neg g]
      exact id
theorem zx_m_ins (hr : ∀ k as h r, run k as h = some r → run' k as h = some r) {ins : Instr} (h1 : zx_ins sc run t ins pc L S h nc ns = some x) : zx_ins sc run' t ins pc L S h nc ns = some x := by
  cases ins
  case invokevirtual ix => exact zx_m_iv hr h1
  case invokestatic ix => exact zx_m_is hr h1
  case invokespecial ix => exact zx_m_ii hr h1
  all_goals exact h1
theorem zx_m_stp (hr : ∀ k as h r, run k as h = some r → run' k as h = some r) {st : zx_S} (h1 : zx_stp sc run t st = some x) : zx_stp sc run' t st = some x := by
  unfold zx_stp at h1 ⊢
  cases e : decode (zx_mb t) st.1 with
  | error z => rw [e] at h1; cases h1
  | ok q =>
    obtain ⟨ins, len⟩ := q
    rw [e] at h1
    replace h1 : (if zx_lok ins len = true then zx_ins sc run t ins st.1 st.2.1 st.2.2.1 st.2.2.2.1 st.2.2.2.2.1 st.2.2.2.2.2 else none) = some x := h1
    show (if zx_lok ins len = true then zx_ins sc run' t ins st.1 st.2.1 st.2.2.1 st.2.2.2.1 st.2.2.2.2.1 st.2.2.2.2.2 else none) = some x
    by_cases g : zx_lok ins len = true
    · rw [if_pos g] at h1 ⊢
      exact zx_m_ins hr h1
    · rw [if_neg g] at h1
      cases h1
end
def zx_rr (n d : Nat) : Nat → List zx_V → List zx_C → Option zx_R := fun k as h => match d with
  | 0 => none
  | d + 1 => if zx_cs as ≤ zx_mn (zx_m k) then zx_ex n d none (zx_m k) (0, zx_L0 (zx_mn (zx_m k)) as, [], h, 0, 0) else none
theorem zx_ex_succ (n d : Nat) (sc : zx_Sc) (t : zx_MT) (st : zx_S) : zx_ex (n + 1) d sc t st = match zx_stp sc (zx_rr n d) t st with
    | some (.inl st') => zx_ex n d sc t st'
    | some (.inr r) => some r
    | none => none := by
  conv => lhs; unfold zx_ex
  rfl
theorem zx_ex_mono : ∀ (n m d e : Nat) (sc : zx_Sc) (t : zx_MT) (st : zx_S) (r : zx_R), n ≤ m → d ≤ e → zx_ex n d sc t st = some r → zx_ex m e sc t st = some r := by
  intro n
  induction n with
  | zero => intro m d e sc t st r _ _ h; cases h
  | succ n ih =>
    intro m d e sc t st r hm hd h
    obtain ⟨m, rfl⟩ : ∃ q, m = q + 1 := ⟨m - 1, by omega⟩
    rw [zx_ex_succ] at h ⊢
    have hr : ∀ k as h r, zx_rr n d k as h = some r → zx_rr m e k as h = some r := by
      intro k as h' r' h1
      unfold zx_rr at h1 ⊢
      cases d with
      | zero => cases h1
      | succ d =>
        obtain ⟨e, rfl⟩ : ∃ q, e = q + 1 := ⟨e - 1, by omega⟩
        simp only at h1 ⊢
        split at h1
        · rename_i g
          rw [if_pos g]
          exact ih m d e none _ _ _ (by omega) (by omega) h1
        · cases h1
    split at h
    · rename_i st' e1
      rw [zx_m_stp hr e1]
      exact ih m d e sc t st' r (by omega) hd h
    · rename_i r' e1
      rw [zx_m_stp hr e1]
      exact h
    · cases h
/-- a run to an end -/
def zx_Rn (sc : zx_Sc) (d : Nat) (t : zx_MT) (st : zx_S) (r : zx_R) : Prop := ∃ n, zx_ex n d sc t st = some r
theorem zx_rr_mono {n m d e k : Nat} {as : List zx_V} {h : List zx_C} {r : zx_R} (hn : n ≤ m) (hd : d ≤ e) (h1 : zx_rr n d k as h = some r) : zx_rr m e k as h = some r := by
  unfold zx_rr at h1 ⊢
  cases d with
  | zero => cases h1
  | succ d =>
    obtain ⟨e, rfl⟩ : ∃ q, e = q + 1 := ⟨e - 1, by omega⟩
    simp only at h1 ⊢
    split at h1
    · rename_i g
      rw [if_pos g]
      exact zx_ex_mono n m d e none _ _ _ hn (by omega) h1
    · cases h1
theorem zx_Rn_step {sc : zx_Sc} {d N : Nat} {t : zx_MT} {st st' : zx_S} {r : zx_R} (h1 : zx_stp sc (zx_rr N d) t st = some (.inl st')) (h2 : zx_Rn sc d t st' r) : zx_Rn sc d t st r := by
  obtain ⟨n, hn⟩ := h2
  refine ⟨max n N + 1, ?_⟩
  rw [zx_ex_succ, zx_m_stp (fun _ _ _ _ q => zx_rr_mono (Nat.le_max_right n N) (Nat.le_refl d) q) h1]
  exact zx_ex_mono n _ d d sc t st' r (Nat.le_max_left n N) (Nat.le_refl _) hn
theorem zx_Rn_end {sc : zx_Sc} {d N : Nat} {t : zx_MT} {st : zx_S} {r : zx_R} (h1 : zx_stp sc (zx_rr N d) t st = some (.inr r)) : zx_Rn sc d t st r := by
  refine ⟨N + 1, ?_⟩
  rw [zx_ex_succ, h1]
theorem zx_it_run {t : zx_MT} : ∀ (n : Nat) {st st' : zx_S} {r : zx_R}, zx_it t n st = some st' → zx_Rn none 21 t st' r → zx_Rn none 21 t st r
  | 0, st, st', r, h, k => by
    cases h
    exact k
  | n + 1, st, st', r, h, k => by
    unfold zx_it at h
    split at h
    · rename_i st1 e
      have e2 : zx_stp none (zx_rr 300 21) t st = some (.inl st1) := e
      exact zx_Rn_step e2 (zx_it_run n h k)
    · cases h
theorem zx_it_seq {t : zx_MT} {n : Nat} {st st' : zx_S} {r : zx_R} (h : zx_seq (zx_it t n st) st' = true) (k : zx_Rn none 21 t st' r) : zx_Rn none 21 t st r := zx_it_run n (zx_seq_ok h) k
/-- the state's run ends, as many cells there as before, with Q of its answer and its cells -/
def zx_W (sc : zx_Sc) (nc ns d : Nat) (t : zx_MT) (pc : Nat) (L : List (Option zx_V)) (S : List zx_V) (h : List zx_C) (Q : Option zx_V → List zx_C → Prop) : Prop := ∃ (v : Option zx_V) (h' : List zx_C), zx_Rn sc d t (pc, L, S, h, nc, ns) (v, h', nc, ns) ∧ h'.length = h.length ∧ Q v h'
def zx_M (d k : Nat) (as : List zx_V) (h : List zx_C) (Q : Option zx_V → List zx_C → Prop) : Prop := ∃ (v : Option zx_V) (h' : List zx_C), (∃ n, zx_run n d k as h = some (v, h', 0, 0)) ∧ h'.length = h.length ∧ Q v h'
theorem zx_M_of {d k : Nat} {as : List zx_V} {h : List zx_C} {Q : Option zx_V → List zx_C → Prop} (hc : zx_cs as ≤ zx_mn (zx_m k)) {t : zx_MT} (ht : zx_m k = t) {L : List (Option zx_V)} (hL : zx_L0 (zx_mn t) as = L) (h1 : zx_W none 0 0 d t 0 L [] h Q) : zx_M d k as h Q := by
  subst ht hL
  obtain ⟨v, h', ⟨n, hn⟩, hl, hq⟩ := h1
  refine ⟨v, h', ⟨n, ?_⟩, hl, hq⟩
  unfold zx_run
  rw [if_pos hc]
  exact hn
theorem zx_M_cons {d k : Nat} {as : List zx_V} {h : List zx_C} {Q Q' : Option zx_V → List zx_C → Prop} (h1 : zx_M d k as h Q) (hq : ∀ v h', h'.length = h.length → Q v h' → Q' v h') : zx_M d k as h Q' := by
  obtain ⟨v, h', a, b, c⟩ := h1
  exact ⟨v, h', a, b, hq v h' b c⟩
section
variable {sc : zx_Sc} {d nc ns : Nat} {t : zx_MT} {pc pc' : Nat} {L L' : List (Option zx_V)} {S S' : List zx_V} {h h' : List zx_C} {Q : Option zx_V → List zx_C → Prop}
theorem zx_W_stp {N : Nat} (h1 : zx_stp sc (zx_rr N d) t (pc, L, S, h, nc, ns) = some (.inl (pc', L', S', h', nc, ns))) (hl : h'.length = h.length) (k : zx_W sc nc ns d t pc' L' S' h' Q) : zx_W sc nc ns d t pc L S h Q := by
  obtain ⟨v, h2, a, b, c⟩ := k
  exact ⟨v, h2, zx_Rn_step h1 a, b.trans hl, c⟩
theorem zx_stp_ins {run : Nat → List zx_V → List zx_C → Option zx_R} {ins : Instr} {len : Nat} {st : zx_S} (hdg : decode (zx_mb t) st.1 = .ok (ins, len)) (hlen : zx_lok ins len = true) : zx_stp sc run t st = zx_ins sc run t ins st.1 st.2.1 st.2.2.1 st.2.2.2.1 st.2.2.2.2.1 st.2.2.2.2.2 := by
  unfold zx_stp
  simp only [hdg]
  rw [if_pos hlen]
/-- a step that calls nobody -/
theorem zx_W_ins {ins : Instr} {len : Nat} (hdg : decode (zx_mb t) pc = .ok (ins, len)) (hlen : zx_lok ins len = true) (h1 : ∀ run, zx_ins sc run t ins pc L S h nc ns = some (.inl (pc', L', S', h', nc, ns))) (hl : h'.length = h.length) (k : zx_W sc nc ns d t pc' L' S' h' Q) : zx_W sc nc ns d t pc L S h Q :=
  zx_W_stp (N := 0) ((zx_stp_ins (st := (pc, L, S, h, nc, ns)) (run := zx_rr 0 d) (sc := sc) hdg hlen).trans (h1 (zx_rr 0 d))) hl k
/-- an end -/
theorem zx_W_end {ins : Instr} {len : Nat} {v : Option zx_V} (hdg : decode (zx_mb t) pc = .ok (ins, len)) (hlen : zx_lok ins len = true) (h1 : ∀ run, zx_ins sc run t ins pc L S h nc ns = some (.inr (v, h, nc, ns))) (q : Q v h) : zx_W sc nc ns d t pc L S h Q :=
  ⟨v, h, zx_Rn_end (N := 0) ((zx_stp_ins (st := (pc, L, S, h, nc, ns)) (run := zx_rr 0 d) (sc := sc) hdg hlen).trans (h1 (zx_rr 0 d))), rfl, q⟩
theorem zx_rr_run {n k : Nat} {as : List zx_V} {r : zx_R} (h1 : zx_run n d k as h = some r) : zx_rr n (d + 1) k as h = some r := h1
/-- a call: the callee's end, then the caller's run -/
theorem zx_W_call {ins : Instr} {k : Nat} {as r : List zx_V} (hdg : decode (zx_mb t) pc = .ok (ins, 3)) (hlen : zx_lok ins 3 = true) (h1 : ∀ run, zx_ins sc run t ins pc L S h nc ns = zx_ret pc L r h nc ns (run k as h))
    (hM : zx_M d k as h (fun v h' => h'.length = h.length → zx_W sc nc ns (d + 1) t (pc + 3) L (v.toList ++ r) h' Q)) : zx_W sc nc ns (d + 1) t pc L S h Q := by
  obtain ⟨v, h', ⟨n, hn⟩, hl, k2⟩ := hM
  refine zx_W_stp (N := n) (pc' := pc + 3) (L' := L) (S' := v.toList ++ r) (h' := h') ?_ hl (k2 hl)
  refine (zx_stp_ins (st := (pc, L, S, h, nc, ns)) (run := zx_rr n (d + 1)) (sc := sc) hdg hlen).trans ?_
  show zx_ins sc (zx_rr n (d + 1)) t ins pc L S h nc ns = _
  rw [h1, zx_rr_run hn]
  unfold zx_ret
  simp only
  rw [if_pos (Or.inl hl)]
  rfl
end
end
section
/-! part 19: from the law's entry to its loop's head: laid by wip/p2/law0.py -/
def zx_obj (ci : Nat) : zx_C := .inl (ci, (List.range (zx_fn ci)).map (fun k => zx_df (zx_ft ci k)))
theorem zx_bx_d : decode (zx_mb (zx_m 67)) 170 = .ok (.return_, 1) := by decide +kernel
set_option maxRecDepth 100000 in
theorem zx_bx_e : zx_Rn none 21 (zx_m 67) zx_bx21 (none, zx_hX, 62, 1925) := zx_Rn_end (N := 0) ((zx_stp_ins (st := zx_bx21) zx_bx_d rfl).trans rfl)
theorem zx_bx_r : zx_Rn none 21 (zx_m 67) zx_bx0 (none, zx_hX, 62, 1925) := zx_it_seq zx_bx3_ok (zx_it_seq zx_bx6_ok (zx_it_seq zx_bx9_ok (zx_it_seq zx_bx12_ok (zx_it_seq zx_bx15_ok (zx_it_seq zx_bx18_ok (zx_it_seq zx_bx21_ok (zx_bx_e)))))))
set_option maxRecDepth 100000 in
theorem zx_bx_run : ∃ N, zx_rr N 200 67 [.inr (.inr (1, 0))] [zx_obj 7] = some (none, zx_hX, 62, 1925) := by
  obtain ⟨n, hn⟩ := zx_bx_r
  refine ⟨n, ?_⟩
  have h1 := zx_ex_mono n n 21 199 none _ _ _ (Nat.le_refl _) (by decide) hn
  have h2 : zx_bx0 = (0, zx_L0 (zx_mn (zx_m 67)) [.inr (.inr (1, 0))], [], [zx_obj 7], 0, 0) := rfl
  rw [h2] at h1
  show (if zx_cs [.inr (.inr (1, 0))] ≤ zx_mn (zx_m 67) then _ else none) = _
  rw [if_pos (by decide)]
  exact h1
theorem zx_bm_d : decode (zx_mb (zx_m 124)) 712 = .ok (.return_, 1) := by decide +kernel
set_option maxRecDepth 100000 in
theorem zx_bm_e : zx_Rn none 21 (zx_m 124) zx_bm39 (none, zx_hM, 22, 2383) := zx_Rn_end (N := 0) ((zx_stp_ins (st := zx_bm39) zx_bm_d rfl).trans rfl)
theorem zx_bm_r : zx_Rn none 21 (zx_m 124) zx_bm0 (none, zx_hM, 22, 2383) := zx_it_seq zx_bm6_ok (zx_it_seq zx_bm12_ok (zx_it_seq zx_bm18_ok (zx_it_seq zx_bm24_ok (zx_it_seq zx_bm30_ok (zx_it_seq zx_bm36_ok (zx_it_seq zx_bm39_ok (zx_bm_e)))))))
set_option maxRecDepth 100000 in
theorem zx_bm_run : ∃ N, zx_rr N 200 124 [.inr (.inr (1, 63))] (zx_hX ++ [zx_obj 8]) = some (none, zx_hM, 22, 2383) := by
  obtain ⟨n, hn⟩ := zx_bm_r
  refine ⟨n, ?_⟩
  have h1 := zx_ex_mono n n 21 199 none _ _ _ (Nat.le_refl _) (by decide) hn
  have h2 : zx_bm0 = (0, zx_L0 (zx_mn (zx_m 124)) [.inr (.inr (1, 63))], [], (zx_hX ++ [zx_obj 8]), 0, 0) := rfl
  rw [h2] at h1
  show (if zx_cs [.inr (.inr (1, 63))] ≤ zx_mn (zx_m 124) then _ else none) = _
  rw [if_pos (by decide)]
  exact h1
theorem zx_dl_0 : decode (zx_mb zx_tl) 0 = .ok (.new 7, 3) := by decide +kernel
theorem zx_dl_3 : decode (zx_mb zx_tl) 3 = .ok (.dup, 1) := by decide +kernel
theorem zx_dl_4 : decode (zx_mb zx_tl) 4 = .ok (.invokespecial 9, 3) := by decide +kernel
theorem zx_dl_7 : decode (zx_mb zx_tl) 7 = .ok (.astore_n 1, 1) := by decide +kernel
theorem zx_dl_8 : decode (zx_mb zx_tl) 8 = .ok (.new 10, 3) := by decide +kernel
theorem zx_dl_11 : decode (zx_mb zx_tl) 11 = .ok (.dup, 1) := by decide +kernel
theorem zx_dl_12 : decode (zx_mb zx_tl) 12 = .ok (.invokespecial 12, 3) := by decide +kernel
theorem zx_dl_15 : decode (zx_mb zx_tl) 15 = .ok (.astore_n 2, 1) := by decide +kernel
theorem zx_dl_16 : decode (zx_mb zx_tl) 16 = .ok (.iconst 0, 1) := by decide +kernel
theorem zx_dl_17 : decode (zx_mb zx_tl) 17 = .ok (.istore_n 3, 1) := by decide +kernel
def zx_nc : Nat := 86
def zx_ns : Nat := 4372
/-- behind the constructors: the law's loop at its head -/
def zx_hd (i : Int32) (h : List zx_C) : zx_S := (18, [some (.inr (.inr (5, 0))), some (.inr (.inr (1, 0))), some (.inr (.inr (1, 63))), some (.inl i)], [], h, zx_nc, zx_ns)
set_option maxRecDepth 100000 in
theorem zx_law0 {q : Nat × (Nat → Int32)} {r : zx_R} (hk : zx_Rn (some q) 200 zx_tl (zx_hd 0 zx_hM) r) : zx_Rn (some q) 200 zx_tl zx_sl0 r := by
  obtain ⟨N1, e1⟩ := zx_bx_run
  obtain ⟨N2, e2⟩ := zx_bm_run
  refine zx_Rn_step (N := 0) (st := (0, [some (.inr (.inr (5, 0))), none, none, none], [], [], 0, 0)) (st' := (3, [some (.inr (.inr (5, 0))), none, none, none], [.inr (.inr (1, 0))], [zx_obj 7], 1, 11)) ((zx_stp_ins (st := (0, [some (.inr (.inr (5, 0))), none, none, none], [], [], 0, 0)) zx_dl_0 rfl).trans rfl) ?_
  refine zx_Rn_step (N := 0) (st := (3, [some (.inr (.inr (5, 0))), none, none, none], [.inr (.inr (1, 0))], [zx_obj 7], 1, 11)) (st' := (4, [some (.inr (.inr (5, 0))), none, none, none], [.inr (.inr (1, 0)), .inr (.inr (1, 0))], [zx_obj 7], 1, 11)) ((zx_stp_ins (st := (3, [some (.inr (.inr (5, 0))), none, none, none], [.inr (.inr (1, 0))], [zx_obj 7], 1, 11)) zx_dl_3 rfl).trans rfl) ?_
  refine zx_Rn_step (N := N1) (st := (4, [some (.inr (.inr (5, 0))), none, none, none], [.inr (.inr (1, 0)), .inr (.inr (1, 0))], [zx_obj 7], 1, 11)) (st' := (7, [some (.inr (.inr (5, 0))), none, none, none], [.inr (.inr (1, 0))], zx_hX, 63, 1936)) ((zx_stp_ins (st := (4, [some (.inr (.inr (5, 0))), none, none, none], [.inr (.inr (1, 0)), .inr (.inr (1, 0))], [zx_obj 7], 1, 11)) zx_dl_4 rfl).trans ?_) ?_
  · show zx_ret 4 [some (.inr (.inr (5, 0))), none, none, none] [.inr (.inr (1, 0))] [zx_obj 7] 1 11 (zx_rr N1 200 67 [.inr (.inr (1, 0))] [zx_obj 7]) = _
    rw [e1]
    rfl
  refine zx_Rn_step (N := 0) (st := (7, [some (.inr (.inr (5, 0))), none, none, none], [.inr (.inr (1, 0))], zx_hX, 63, 1936)) (st' := (8, [some (.inr (.inr (5, 0))), some (.inr (.inr (1, 0))), none, none], [], zx_hX, 63, 1936)) ((zx_stp_ins (st := (7, [some (.inr (.inr (5, 0))), none, none, none], [.inr (.inr (1, 0))], zx_hX, 63, 1936)) zx_dl_7 rfl).trans rfl) ?_
  refine zx_Rn_step (N := 0) (st := (8, [some (.inr (.inr (5, 0))), some (.inr (.inr (1, 0))), none, none], [], zx_hX, 63, 1936)) (st' := (11, [some (.inr (.inr (5, 0))), some (.inr (.inr (1, 0))), none, none], [.inr (.inr (1, 63))], (zx_hX ++ [zx_obj 8]), 64, 1989)) ((zx_stp_ins (st := (8, [some (.inr (.inr (5, 0))), some (.inr (.inr (1, 0))), none, none], [], zx_hX, 63, 1936)) zx_dl_8 rfl).trans rfl) ?_
  refine zx_Rn_step (N := 0) (st := (11, [some (.inr (.inr (5, 0))), some (.inr (.inr (1, 0))), none, none], [.inr (.inr (1, 63))], (zx_hX ++ [zx_obj 8]), 64, 1989)) (st' := (12, [some (.inr (.inr (5, 0))), some (.inr (.inr (1, 0))), none, none], [.inr (.inr (1, 63)), .inr (.inr (1, 63))], (zx_hX ++ [zx_obj 8]), 64, 1989)) ((zx_stp_ins (st := (11, [some (.inr (.inr (5, 0))), some (.inr (.inr (1, 0))), none, none], [.inr (.inr (1, 63))], (zx_hX ++ [zx_obj 8]), 64, 1989)) zx_dl_11 rfl).trans rfl) ?_
  refine zx_Rn_step (N := N2) (st := (12, [some (.inr (.inr (5, 0))), some (.inr (.inr (1, 0))), none, none], [.inr (.inr (1, 63)), .inr (.inr (1, 63))], (zx_hX ++ [zx_obj 8]), 64, 1989)) (st' := (15, [some (.inr (.inr (5, 0))), some (.inr (.inr (1, 0))), none, none], [.inr (.inr (1, 63))], zx_hM, 86, 4372)) ((zx_stp_ins (st := (12, [some (.inr (.inr (5, 0))), some (.inr (.inr (1, 0))), none, none], [.inr (.inr (1, 63)), .inr (.inr (1, 63))], (zx_hX ++ [zx_obj 8]), 64, 1989)) zx_dl_12 rfl).trans ?_) ?_
  · show zx_ret 12 [some (.inr (.inr (5, 0))), some (.inr (.inr (1, 0))), none, none] [.inr (.inr (1, 63))] (zx_hX ++ [zx_obj 8]) 64 1989 (zx_rr N2 200 124 [.inr (.inr (1, 63))] (zx_hX ++ [zx_obj 8])) = _
    rw [e2]
    rfl
  refine zx_Rn_step (N := 0) (st := (15, [some (.inr (.inr (5, 0))), some (.inr (.inr (1, 0))), none, none], [.inr (.inr (1, 63))], zx_hM, 86, 4372)) (st' := (16, [some (.inr (.inr (5, 0))), some (.inr (.inr (1, 0))), some (.inr (.inr (1, 63))), none], [], zx_hM, 86, 4372)) ((zx_stp_ins (st := (15, [some (.inr (.inr (5, 0))), some (.inr (.inr (1, 0))), none, none], [.inr (.inr (1, 63))], zx_hM, 86, 4372)) zx_dl_15 rfl).trans rfl) ?_
  refine zx_Rn_step (N := 0) (st := (16, [some (.inr (.inr (5, 0))), some (.inr (.inr (1, 0))), some (.inr (.inr (1, 63))), none], [], zx_hM, 86, 4372)) (st' := (17, [some (.inr (.inr (5, 0))), some (.inr (.inr (1, 0))), some (.inr (.inr (1, 63))), none], [.inl 0], zx_hM, 86, 4372)) ((zx_stp_ins (st := (16, [some (.inr (.inr (5, 0))), some (.inr (.inr (1, 0))), some (.inr (.inr (1, 63))), none], [], zx_hM, 86, 4372)) zx_dl_16 rfl).trans rfl) ?_
  refine zx_Rn_step (N := 0) (st := (17, [some (.inr (.inr (5, 0))), some (.inr (.inr (1, 0))), some (.inr (.inr (1, 63))), none], [.inl 0], zx_hM, 86, 4372)) (st' := (18, [some (.inr (.inr (5, 0))), some (.inr (.inr (1, 0))), some (.inr (.inr (1, 63))), some (.inl 0)], [], zx_hM, 86, 4372)) ((zx_stp_ins (st := (17, [some (.inr (.inr (5, 0))), some (.inr (.inr (1, 0))), some (.inr (.inr (1, 63))), none], [.inl 0], zx_hM, 86, 4372)) zx_dl_17 rfl).trans rfl) ?_
  exact hk
end
section
/-! part 1a: instructions read from a suffix of the bytes: one pass for many -/
def zdc1 : Nat → Option Instr
  | 2 => some (.iconst (-1)) | 3 => some (.iconst 0) | 4 => some (.iconst 1) | 5 => some (.iconst 2) | 6 => some (.iconst 3) | 7 => some (.iconst 4) | 8 => some (.iconst 5)
  | 9 => some (.lconst 0) | 10 => some (.lconst 1)
  | 26 => some (.iload_n 0) | 27 => some (.iload_n 1) | 28 => some (.iload_n 2) | 29 => some (.iload_n 3)
  | 30 => some (.lload_n 0) | 31 => some (.lload_n 1) | 32 => some (.lload_n 2) | 33 => some (.lload_n 3)
  | 42 => some (.aload_n 0) | 43 => some (.aload_n 1) | 44 => some (.aload_n 2) | 45 => some (.aload_n 3)
  | 46 => some .iaload | 47 => some .laload | 50 => some .aaload | 51 => some .baload
  | 59 => some (.istore_n 0) | 60 => some (.istore_n 1) | 61 => some (.istore_n 2) | 62 => some (.istore_n 3)
  | 63 => some (.lstore_n 0) | 64 => some (.lstore_n 1) | 65 => some (.lstore_n 2) | 66 => some (.lstore_n 3)
  | 75 => some (.astore_n 0) | 76 => some (.astore_n 1) | 77 => some (.astore_n 2) | 78 => some (.astore_n 3)
  | 79 => some .iastore | 80 => some .lastore | 83 => some .aastore
  | 87 => some .pop | 88 => some .pop2 | 89 => some .dup | 90 => some .dup_x1 | 92 => some .dup2
  | 96 => some .iadd | 100 => some .isub | 104 => some .imul | 108 => some .idiv | 112 => some .irem | 116 => some .ineg
  | 120 => some .ishl | 121 => some .lshl | 122 => some .ishr | 124 => some .iushr | 126 => some .iand | 127 => some .land | 128 => some .ior | 129 => some .lor | 130 => some .ixor
  | 133 => some .i2l | 136 => some .l2i | 145 => some .i2b | 146 => some .i2c | 147 => some .i2s | 148 => some .lcmp
  | 172 => some .ireturn | 173 => some .lreturn | 176 => some .areturn | 177 => some .return_ | 190 => some .arraylength
  | _ => none
/-- with one byte behind: its number or, signed, 16 alone -/
def zdc2 : Nat → Option (Nat → Instr)
  | 18 => some .ldc | 21 => some .iload | 22 => some .lload | 25 => some .aload | 54 => some .istore | 55 => some .lstore | 58 => some .astore
  | 16 => some (fun n => .bipush (Reader.signed 8 n))
  | _ => none
/-- with two -/
def zdc3 : Nat → Option (Nat → Instr)
  | 19 => some .ldc_w | 20 => some .ldc2_w | 178 => some .getstatic | 180 => some .getfield | 181 => some .putfield | 182 => some .invokevirtual | 183 => some .invokespecial | 184 => some .invokestatic | 187 => some .new | 189 => some .anewarray
  | 17 => some (fun n => .sipush (Reader.signed 16 n))
  | 153 => some (fun n => .ifCond .eq (Reader.signed 16 n)) | 154 => some (fun n => .ifCond .ne (Reader.signed 16 n)) | 155 => some (fun n => .ifCond .lt (Reader.signed 16 n)) | 156 => some (fun n => .ifCond .ge (Reader.signed 16 n)) | 157 => some (fun n => .ifCond .gt (Reader.signed 16 n)) | 158 => some (fun n => .ifCond .le (Reader.signed 16 n))
  | 159 => some (fun n => .if_icmp .eq (Reader.signed 16 n)) | 160 => some (fun n => .if_icmp .ne (Reader.signed 16 n)) | 161 => some (fun n => .if_icmp .lt (Reader.signed 16 n)) | 162 => some (fun n => .if_icmp .ge (Reader.signed 16 n)) | 163 => some (fun n => .if_icmp .gt (Reader.signed 16 n)) | 164 => some (fun n => .if_icmp .le (Reader.signed 16 n))
  | 167 => some (fun n => .goto (Reader.signed 16 n))
  | _ => none
theorem zdcb {f : Nat → Instr} {x : Except DecodeError (Nat × Nat)} {n q : Nat} (e : x = .ok (n, q)) : Except.bind x (fun z => .ok (f z.1, z.2)) = .ok (f n, q) := by
  rw [e]
  rfl
theorem zdcc {g : Nat → Int} {f : Int → Instr} {x : Except DecodeError (Nat × Nat)} {n q : Nat} (e : x = .ok (n, q)) : Except.bind (Except.bind x (fun z => .ok (g z.1, z.2))) (fun z => .ok (f z.1, z.2)) = .ok (f (g n), q) := by
  rw [e]
  rfl
theorem zdcK : ∃ K : Nat → Nat → Decoder Instr, (∀ pc, Decoder.instr pc = (Reader.u1 >>= K pc)) ∧ (∀ pc o i, zdc1 o = some i → K pc o = (Pure.pure i : Decoder Instr)) ∧ (∀ pc o f, zdc2 o = some f → ∀ (c : ByteArray) (p n q : Nat), (Reader.u1 : Decoder Nat) c p = .ok (n, q) → K pc o c p = .ok (f n, q)) ∧ (∀ pc o f, zdc3 o = some f → ∀ (c : ByteArray) (p n q : Nat), (Reader.u2 : Decoder Nat) c p = .ok (n, q) → K pc o c p = .ok (f n, q)) ∧ (∀ pc (c : ByteArray) (p n q k s : Nat), (Reader.u1 : Decoder Nat) c p = .ok (n, q) → (Reader.u1 : Decoder Nat) c q = .ok (k, s) → K pc 132 c p = .ok (.iinc n (Reader.signed 8 k), s)) := by
  refine ⟨_, fun _ => rfl, fun pc o i h => ?_, fun pc o f h => ?_, fun pc o f h => ?_, fun pc c p n q k s e1 e2 => ?_⟩
  · unfold zdc1 at h
    split at h <;> first | (cases h; rfl) | cases h
  · unfold zdc2 at h
    split at h <;> first | (cases h; intro c p n q e; first | exact zdcb e | exact zdcc e) | cases h
  · unfold zdc3 at h
    split at h <;> first | (cases h; intro c p n q e; first | exact zdcb e | exact zdcc e) | cases h
  · show Except.bind ((Reader.u1 : Decoder Nat) c p) (fun a => Except.bind (Except.bind ((Reader.u1 : Decoder Nat) c a.2) (fun d => .ok (Reader.signed 8 d.1, d.2))) (fun d => .ok (Instr.iinc a.1 d.1, d.2))) = _
    rw [e1]
    show Except.bind (Except.bind ((Reader.u1 : Decoder Nat) c q) (fun d => .ok (Reader.signed 8 d.1, d.2))) (fun d => .ok (Instr.iinc n d.1, d.2)) = _
    rw [e2]
    rfl
theorem zdcu {c : ByteArray} {p : Nat} {b : UInt8} {r : List UInt8} (h : c.data.toList.drop p = b :: r) : (Reader.u1 : Decoder Nat) c p = .ok (b.toNat, p + 1) := by
  have hl : p < c.data.toList.length := by
    refine Decidable.byContradiction fun n => ?_
    rw [List.drop_eq_nil_of_le (by omega)] at h
    cases h
  have hs : p < c.size := hl
  have hg : c[p] = b := by
    have e : c.data.toList[p]? = some b := by
      have t := congrArg List.head? h
      rw [List.head?_drop] at t
      exact t
    rw [List.getElem?_eq_getElem hl] at e
    exact Option.some.inj e
  have e : (Reader.u1 : Decoder Nat) c p = (if h : p < c.size then (do set (p + 1); Pure.pure c[p].toNat : Decoder Nat) else throw (HasTruncated.truncated p)) c p := rfl
  rw [e, dif_pos hs, hg]
  rfl
theorem zdct {c : ByteArray} {p : Nat} {b : UInt8} {r : List UInt8} (h : c.data.toList.drop p = b :: r) : c.data.toList.drop (p + 1) = r := by
  have t := congrArg List.tail h
  rw [List.tail_drop] at t
  exact t
def zdc : List UInt8 → Option (Instr × Nat)
  | [] => none
  | b :: r => match zdc1 b.toNat with
    | some i => some (i, 1)
    | none => match r with
      | [] => none
      | x :: q => match zdc2 b.toNat with
        | some f => some (f x.toNat, 2)
        | none => match q with
          | [] => none
          | y :: _ => match zdc3 b.toNat with
            | some f => some (f (x.toNat * 256 + y.toNat), 3)
            | none => if b.toNat = 132 then some (.iinc x.toNat (Reader.signed 8 y.toNat), 3) else none
theorem zdc_ok {c : ByteArray} {p : Nat} {z : Instr × Nat} (h : zdc (c.data.toList.drop p) = some z) : decode c p = .ok z := by
  obtain ⟨K, k0, k1, k2, k3, k4⟩ := zdcK
  have go : ∀ {b : UInt8} {r : List UInt8} {i : Instr} {n : Nat}, c.data.toList.drop p = b :: r → (K p b.toNat : Decoder Instr) c (p + 1) = .ok (i, p + n) → decode c p = .ok (i, n) := fun {b r i n} e k => by
    have e1 : (Decoder.instr p) c p = .ok (i, p + n) := by
      rw [k0]
      show Except.bind ((Reader.u1 : Decoder Nat) c p) (fun q => K p q.1 c q.2) = _
      rw [zdcu e]
      exact k
    show Except.bind ((Decoder.instr p) c p) (fun q => .ok (q.1, q.2 - p)) = _
    rw [e1]
    show Except.ok (i, p + n - p) = _
    rw [Nat.add_sub_cancel_left]
  unfold zdc at h
  split at h
  · cases h
  · rename_i b r e
    split at h
    · rename_i i hi
      cases h
      exact go e (by rw [k1 _ _ _ hi]; rfl)
    · split at h
      · cases h
      · rename_i x q
        have e1 := zdct e
        split at h
        · rename_i f hf
          cases h
          exact go e (k2 _ _ _ hf _ _ _ _ (zdcu e1))
        · split at h
          · cases h
          · rename_i y q2
            have e2 := zdct e1
            split at h
            · rename_i f hf
              cases h
              refine go e (k3 _ _ _ hf _ _ _ _ ?_)
              show Except.bind ((Reader.u1 : Decoder Nat) c (p + 1)) (fun a => Except.bind ((Reader.u1 : Decoder Nat) c a.2) (fun d => .ok (a.1 * 256 + d.1, d.2))) = _
              rw [zdcu e1]
              show Except.bind ((Reader.u1 : Decoder Nat) c (p + 1 + 1)) (fun d => .ok (x.toNat * 256 + d.1, d.2)) = _
              rw [zdcu e2]
              rfl
            · split at h
              · rename_i g
                cases h
                refine go e ?_
                rw [g]
                exact k4 _ _ _ _ _ _ _ (zdcu e1) (zdcu e2)
              · cases h
/-- a run of instructions -/
def zdcP (c : ByteArray) : Nat → List (Instr × Nat) → Prop
  | _, [] => True
  | p, z :: r => decode c p = .ok z ∧ zdcP c (p + z.2) r
def zdcA : List UInt8 → List (Instr × Nat) → Bool
  | _, [] => true
  | l, z :: r => decide (zdc l = some z) && zdcA (l.drop z.2) r
theorem zdcA_ok {c : ByteArray} : ∀ {t : List (Instr × Nat)} {p : Nat}, zdcA (c.data.toList.drop p) t = true → zdcP c p t
  | [], _, _ => trivial
  | z :: r, p, h => by
    unfold zdcA at h
    rw [Bool.and_eq_true, List.drop_drop] at h
    exact ⟨zdc_ok (of_decide_eq_true h.1), zdcA_ok h.2⟩
end
section
/-! part 20: rules of runs, an instruction each: laid by wip/p2/rules.py -/
section
variable {sc : zx_Sc} {d nc ns : Nat} {t : zx_MT} {pc : Nat} {L : List (Option zx_V)} {S r : List zx_V} {h : List zx_C} {Q : Option zx_V → List zx_C → Prop}
theorem zi_lt {x y : Int32} : x < y ↔ x.toInt < y.toInt := Int32.lt_iff_toInt_lt
theorem zi_le {x y : Int32} : x ≤ y ↔ x.toInt ≤ y.toInt := Int32.le_iff_toInt_le
theorem zi_in {x : Int32} {n : Nat} (h : 0 ≤ x.toInt ∧ x.toInt < n) : ¬ x < 0 ∧ x.toNatClampNeg < n := by
  refine ⟨fun q => ?_, ?_⟩
  · have := zi_lt.mp q
    have e : (0 : Int32).toInt = 0 := rfl
    omega
  · show x.toInt.toNat < n
    omega
theorem zw_icmp_eq {x y : Int32} {off : Int} {tgt pc' : Nat} (hdg : decode (zx_mb t) pc = .ok (.if_icmp .eq off, 3)) (ht : (pc : Int) + off = (tgt : Int)) (hp : pc + 3 = pc') (kt : x = y → zx_W sc nc ns d t tgt L r h Q) (kf : ¬ x = y → zx_W sc nc ns d t pc' L r h Q) : zx_W sc nc ns d t pc L (.inl y :: .inl x :: r) h Q := by
  subst hp
  by_cases g : x = y
  · refine zx_W_ins hdg rfl (fun run => ?_) rfl (kt (g))
    show zx_br (decide (x = y)) off pc L r h nc ns = _
    unfold zx_br
    rw [if_pos (by omega), if_pos (decide_eq_true g), show ((pc : Int) + off).toNat = tgt by omega]
    rfl
  · refine zx_W_ins hdg rfl (fun run => ?_) rfl (kf (g))
    show zx_br (decide (x = y)) off pc L r h nc ns = _
    unfold zx_br
    rw [if_pos (by omega), if_neg (by simpa using g)]
    rfl
theorem zw_if_eq {x : Int32} {off : Int} {tgt pc' : Nat} (hdg : decode (zx_mb t) pc = .ok (.ifCond .eq off, 3)) (ht : (pc : Int) + off = (tgt : Int)) (hp : pc + 3 = pc') (kt : x = 0 → zx_W sc nc ns d t tgt L r h Q) (kf : ¬ x = 0 → zx_W sc nc ns d t pc' L r h Q) : zx_W sc nc ns d t pc L (.inl x :: r) h Q := by
  subst hp
  by_cases g : x = 0
  · refine zx_W_ins hdg rfl (fun run => ?_) rfl (kt (g))
    show zx_br (decide (x = 0)) off pc L r h nc ns = _
    unfold zx_br
    rw [if_pos (by omega), if_pos (decide_eq_true g), show ((pc : Int) + off).toNat = tgt by omega]
    rfl
  · refine zx_W_ins hdg rfl (fun run => ?_) rfl (kf (g))
    show zx_br (decide (x = 0)) off pc L r h nc ns = _
    unfold zx_br
    rw [if_pos (by omega), if_neg (by simpa using g)]
    rfl
theorem zw_icmp_ne {x y : Int32} {off : Int} {tgt pc' : Nat} (hdg : decode (zx_mb t) pc = .ok (.if_icmp .ne off, 3)) (ht : (pc : Int) + off = (tgt : Int)) (hp : pc + 3 = pc') (kt : ¬ x = y → zx_W sc nc ns d t tgt L r h Q) (kf : x = y → zx_W sc nc ns d t pc' L r h Q) : zx_W sc nc ns d t pc L (.inl y :: .inl x :: r) h Q := by
  subst hp
  by_cases g : ¬ x = y
  · refine zx_W_ins hdg rfl (fun run => ?_) rfl (kt (g))
    show zx_br (decide (¬ x = y)) off pc L r h nc ns = _
    unfold zx_br
    rw [if_pos (by omega), if_pos (decide_eq_true g), show ((pc : Int) + off).toNat = tgt by omega]
    rfl
  · refine zx_W_ins hdg rfl (fun run => ?_) rfl (kf (Decidable.not_not.mp g))
    show zx_br (decide (¬ x = y)) off pc L r h nc ns = _
    unfold zx_br
    rw [if_pos (by omega), if_neg (by simpa using g)]
    rfl
theorem zw_if_ne {x : Int32} {off : Int} {tgt pc' : Nat} (hdg : decode (zx_mb t) pc = .ok (.ifCond .ne off, 3)) (ht : (pc : Int) + off = (tgt : Int)) (hp : pc + 3 = pc') (kt : ¬ x = 0 → zx_W sc nc ns d t tgt L r h Q) (kf : x = 0 → zx_W sc nc ns d t pc' L r h Q) : zx_W sc nc ns d t pc L (.inl x :: r) h Q := by
  subst hp
  by_cases g : ¬ x = 0
  · refine zx_W_ins hdg rfl (fun run => ?_) rfl (kt (g))
    show zx_br (decide (¬ x = 0)) off pc L r h nc ns = _
    unfold zx_br
    rw [if_pos (by omega), if_pos (decide_eq_true g), show ((pc : Int) + off).toNat = tgt by omega]
    rfl
  · refine zx_W_ins hdg rfl (fun run => ?_) rfl (kf (Decidable.not_not.mp g))
    show zx_br (decide (¬ x = 0)) off pc L r h nc ns = _
    unfold zx_br
    rw [if_pos (by omega), if_neg (by simpa using g)]
    rfl
theorem zw_icmp_lt {x y : Int32} {off : Int} {tgt pc' : Nat} (hdg : decode (zx_mb t) pc = .ok (.if_icmp .lt off, 3)) (ht : (pc : Int) + off = (tgt : Int)) (hp : pc + 3 = pc') (kt : x.toInt < y.toInt → zx_W sc nc ns d t tgt L r h Q) (kf : y.toInt ≤ x.toInt → zx_W sc nc ns d t pc' L r h Q) : zx_W sc nc ns d t pc L (.inl y :: .inl x :: r) h Q := by
  subst hp
  by_cases g : x < y
  · refine zx_W_ins hdg rfl (fun run => ?_) rfl (kt (zi_lt.mp g))
    show zx_br (decide (x < y)) off pc L r h nc ns = _
    unfold zx_br
    rw [if_pos (by omega), if_pos (decide_eq_true g), show ((pc : Int) + off).toNat = tgt by omega]
    rfl
  · refine zx_W_ins hdg rfl (fun run => ?_) rfl (kf (by have g2 : ¬ _ := fun q => g (zi_lt.mpr q); omega))
    show zx_br (decide (x < y)) off pc L r h nc ns = _
    unfold zx_br
    rw [if_pos (by omega), if_neg (by simpa using g)]
    rfl
theorem zw_if_lt {x : Int32} {off : Int} {tgt pc' : Nat} (hdg : decode (zx_mb t) pc = .ok (.ifCond .lt off, 3)) (ht : (pc : Int) + off = (tgt : Int)) (hp : pc + 3 = pc') (kt : x.toInt < 0 → zx_W sc nc ns d t tgt L r h Q) (kf : 0 ≤ x.toInt → zx_W sc nc ns d t pc' L r h Q) : zx_W sc nc ns d t pc L (.inl x :: r) h Q := by
  subst hp
  by_cases g : x < 0
  · refine zx_W_ins hdg rfl (fun run => ?_) rfl (kt (by have e0 : (0 : Int32).toInt = 0 := rfl; have g2 := zi_lt.mp g; omega))
    show zx_br (decide (x < 0)) off pc L r h nc ns = _
    unfold zx_br
    rw [if_pos (by omega), if_pos (decide_eq_true g), show ((pc : Int) + off).toNat = tgt by omega]
    rfl
  · refine zx_W_ins hdg rfl (fun run => ?_) rfl (kf (by have e0 : (0 : Int32).toInt = 0 := rfl; have g2 : ¬ _ := fun q => g (zi_lt.mpr q); omega))
    show zx_br (decide (x < 0)) off pc L r h nc ns = _
    unfold zx_br
    rw [if_pos (by omega), if_neg (by simpa using g)]
    rfl
theorem zw_icmp_ge {x y : Int32} {off : Int} {tgt pc' : Nat} (hdg : decode (zx_mb t) pc = .ok (.if_icmp .ge off, 3)) (ht : (pc : Int) + off = (tgt : Int)) (hp : pc + 3 = pc') (kt : y.toInt ≤ x.toInt → zx_W sc nc ns d t tgt L r h Q) (kf : x.toInt < y.toInt → zx_W sc nc ns d t pc' L r h Q) : zx_W sc nc ns d t pc L (.inl y :: .inl x :: r) h Q := by
  subst hp
  by_cases g : y ≤ x
  · refine zx_W_ins hdg rfl (fun run => ?_) rfl (kt (zi_le.mp g))
    show zx_br (decide (y ≤ x)) off pc L r h nc ns = _
    unfold zx_br
    rw [if_pos (by omega), if_pos (decide_eq_true g), show ((pc : Int) + off).toNat = tgt by omega]
    rfl
  · refine zx_W_ins hdg rfl (fun run => ?_) rfl (kf (by have g2 : ¬ _ := fun q => g (zi_le.mpr q); omega))
    show zx_br (decide (y ≤ x)) off pc L r h nc ns = _
    unfold zx_br
    rw [if_pos (by omega), if_neg (by simpa using g)]
    rfl
theorem zw_if_ge {x : Int32} {off : Int} {tgt pc' : Nat} (hdg : decode (zx_mb t) pc = .ok (.ifCond .ge off, 3)) (ht : (pc : Int) + off = (tgt : Int)) (hp : pc + 3 = pc') (kt : 0 ≤ x.toInt → zx_W sc nc ns d t tgt L r h Q) (kf : x.toInt < 0 → zx_W sc nc ns d t pc' L r h Q) : zx_W sc nc ns d t pc L (.inl x :: r) h Q := by
  subst hp
  by_cases g : 0 ≤ x
  · refine zx_W_ins hdg rfl (fun run => ?_) rfl (kt (by have e0 : (0 : Int32).toInt = 0 := rfl; have g2 := zi_le.mp g; omega))
    show zx_br (decide (0 ≤ x)) off pc L r h nc ns = _
    unfold zx_br
    rw [if_pos (by omega), if_pos (decide_eq_true g), show ((pc : Int) + off).toNat = tgt by omega]
    rfl
  · refine zx_W_ins hdg rfl (fun run => ?_) rfl (kf (by have e0 : (0 : Int32).toInt = 0 := rfl; have g2 : ¬ _ := fun q => g (zi_le.mpr q); omega))
    show zx_br (decide (0 ≤ x)) off pc L r h nc ns = _
    unfold zx_br
    rw [if_pos (by omega), if_neg (by simpa using g)]
    rfl
theorem zw_icmp_gt {x y : Int32} {off : Int} {tgt pc' : Nat} (hdg : decode (zx_mb t) pc = .ok (.if_icmp .gt off, 3)) (ht : (pc : Int) + off = (tgt : Int)) (hp : pc + 3 = pc') (kt : y.toInt < x.toInt → zx_W sc nc ns d t tgt L r h Q) (kf : x.toInt ≤ y.toInt → zx_W sc nc ns d t pc' L r h Q) : zx_W sc nc ns d t pc L (.inl y :: .inl x :: r) h Q := by
  subst hp
  by_cases g : y < x
  · refine zx_W_ins hdg rfl (fun run => ?_) rfl (kt (zi_lt.mp g))
    show zx_br (decide (y < x)) off pc L r h nc ns = _
    unfold zx_br
    rw [if_pos (by omega), if_pos (decide_eq_true g), show ((pc : Int) + off).toNat = tgt by omega]
    rfl
  · refine zx_W_ins hdg rfl (fun run => ?_) rfl (kf (by have g2 : ¬ _ := fun q => g (zi_lt.mpr q); omega))
    show zx_br (decide (y < x)) off pc L r h nc ns = _
    unfold zx_br
    rw [if_pos (by omega), if_neg (by simpa using g)]
    rfl
theorem zw_icmp_le {x y : Int32} {off : Int} {tgt pc' : Nat} (hdg : decode (zx_mb t) pc = .ok (.if_icmp .le off, 3)) (ht : (pc : Int) + off = (tgt : Int)) (hp : pc + 3 = pc') (kt : x.toInt ≤ y.toInt → zx_W sc nc ns d t tgt L r h Q) (kf : y.toInt < x.toInt → zx_W sc nc ns d t pc' L r h Q) : zx_W sc nc ns d t pc L (.inl y :: .inl x :: r) h Q := by
  subst hp
  by_cases g : x ≤ y
  · refine zx_W_ins hdg rfl (fun run => ?_) rfl (kt (zi_le.mp g))
    show zx_br (decide (x ≤ y)) off pc L r h nc ns = _
    unfold zx_br
    rw [if_pos (by omega), if_pos (decide_eq_true g), show ((pc : Int) + off).toNat = tgt by omega]
    rfl
  · refine zx_W_ins hdg rfl (fun run => ?_) rfl (kf (by have g2 : ¬ _ := fun q => g (zi_le.mpr q); omega))
    show zx_br (decide (x ≤ y)) off pc L r h nc ns = _
    unfold zx_br
    rw [if_pos (by omega), if_neg (by simpa using g)]
    rfl
theorem zw_if_le {x : Int32} {off : Int} {tgt pc' : Nat} (hdg : decode (zx_mb t) pc = .ok (.ifCond .le off, 3)) (ht : (pc : Int) + off = (tgt : Int)) (hp : pc + 3 = pc') (kt : x.toInt ≤ 0 → zx_W sc nc ns d t tgt L r h Q) (kf : 0 < x.toInt → zx_W sc nc ns d t pc' L r h Q) : zx_W sc nc ns d t pc L (.inl x :: r) h Q := by
  subst hp
  by_cases g : x ≤ 0
  · refine zx_W_ins hdg rfl (fun run => ?_) rfl (kt (by have e0 : (0 : Int32).toInt = 0 := rfl; have g2 := zi_le.mp g; omega))
    show zx_br (decide (x ≤ 0)) off pc L r h nc ns = _
    unfold zx_br
    rw [if_pos (by omega), if_pos (decide_eq_true g), show ((pc : Int) + off).toNat = tgt by omega]
    rfl
  · refine zx_W_ins hdg rfl (fun run => ?_) rfl (kf (by have e0 : (0 : Int32).toInt = 0 := rfl; have g2 : ¬ _ := fun q => g (zi_le.mpr q); omega))
    show zx_br (decide (x ≤ 0)) off pc L r h nc ns = _
    unfold zx_br
    rw [if_pos (by omega), if_neg (by simpa using g)]
    rfl
theorem zw_goto {off : Int} {tgt : Nat} (hdg : decode (zx_mb t) pc = .ok (.goto off, 3)) (ht : (pc : Int) + off = (tgt : Int)) (k : zx_W sc nc ns d t tgt L S h Q) : zx_W sc nc ns d t pc L S h Q := by
  refine zx_W_ins hdg rfl (fun run => ?_) rfl k
  show zx_J pc off L S h nc ns = _
  unfold zx_J
  rw [if_pos (by omega), show ((pc : Int) + off).toNat = tgt by omega]
  rfl
theorem zw_bi {n : Int} {v : Int32} {pc' : Nat} (hdg : decode (zx_mb t) pc = .ok (.bipush n, 2)) (hp : pc + 2 = pc') (hv : (Int8.ofInt n).toInt32 = v) (k : zx_W sc nc ns d t pc' L (.inl v :: S) h Q) : zx_W sc nc ns d t pc L S h Q := by
  subst hp hv
  exact zx_W_ins hdg rfl (fun run => rfl) rfl k
theorem zw_si {n : Int} {v : Int32} {pc' : Nat} (hdg : decode (zx_mb t) pc = .ok (.sipush n, 3)) (hp : pc + 3 = pc') (hv : (Int16.ofInt n).toInt32 = v) (k : zx_W sc nc ns d t pc' L (.inl v :: S) h Q) : zx_W sc nc ns d t pc L S h Q := by
  subst hp hv
  exact zx_W_ins hdg rfl (fun run => rfl) rfl k
theorem zw_ic {n : Int} {v : Int32} {pc' : Nat} (hdg : decode (zx_mb t) pc = .ok (.iconst n, 1)) (hp : pc + 1 = pc') (hv : Int32.ofInt n = v) (k : zx_W sc nc ns d t pc' L (.inl v :: S) h Q) : zx_W sc nc ns d t pc L S h Q := by
  subst hp hv
  exact zx_W_ins hdg rfl (fun run => rfl) rfl k
theorem zw_gf {a ix ci k pc' : Nat} {np : Nat × Nat} {fs : List zx_V} {v : zx_V} (hdg : decode (zx_mb t) pc = .ok (.getfield ix, 3)) (hp : pc + 3 = pc') (hk : zx_lk zx_lF (zx_mo t) ix = some (ci, k, np)) (ha : h[a]? = some (.inl (ci, fs))) (hv : fs[k]? = some v) (kk : zx_W sc nc ns d t pc' L (v :: r) h Q) : zx_W sc nc ns d t pc L (.inr (.inr (1, a)) :: r) h Q := by
  subst hp
  refine zx_W_ins hdg rfl (fun run => ?_) rfl kk
  show zx_gf (zx_mo t) ix pc L (.inr (.inr (1, a)) :: r) h nc ns = _
  unfold zx_gf
  simp only [hk, ha, if_true, hv]
  rfl
theorem zw_pf {a ix ci k np pp pc' : Nat} {fs : List zx_V} {v : zx_V} (hdg : decode (zx_mb t) pc = .ok (.putfield ix, 3)) (hp : pc + 3 = pc') (hk : zx_lk zx_lF (zx_mo t) ix = some (ci, k, np, pp)) (ha : h[a]? = some (.inl (ci, fs))) (hf : (decide (k < fs.length) && (zx_fit (zx_ft ci k) v && decide ((zx_T8 ci k).2.2.2 = false))) = true) {fs' : List zx_V} (hs : fs.set k v = fs') (kk : zx_W sc nc ns d t pc' L r (h.set a (.inl (ci, fs'))) Q) : zx_W sc nc ns d t pc L (v :: .inr (.inr (1, a)) :: r) h Q := by
  subst hp hs
  simp only [Bool.and_eq_true, decide_eq_true_eq] at hf
  refine zx_W_ins hdg rfl (fun run => ?_) (List.length_set ..) kk
  show zx_pf (zx_mo t) (zx_mk t) ix pc L (v :: .inr (.inr (1, a)) :: r) h nc ns = _
  unfold zx_pf
  simp only [hk, ha]
  rw [if_pos ⟨trivial, hf.1, hf.2.1, Or.inl hf.2.2⟩]
  rfl
theorem zw_ial {a pc' : Nat} {i : Int32} {f : List Int32} (hdg : decode (zx_mb t) pc = .ok (.iaload, 1)) (hp : pc + 1 = pc') (ha : h[a]? = some (.inr (0, .inl f))) (hi : ¬ i < 0 ∧ i.toNatClampNeg < f.length) (kk : zx_W sc nc ns d t pc' L (.inl (f.getD i.toNatClampNeg 0) :: r) h Q) : zx_W sc nc ns d t pc L (.inl i :: .inr (.inr (1, a)) :: r) h Q := by
  subst hp
  refine zx_W_ins hdg rfl (fun run => ?_) rfl kk
  show zx_ial sc pc L (.inl i :: .inr (.inr (1, a)) :: r) h nc ns = _
  unfold zx_ial
  simp only [ha]
  rw [if_pos hi]
  rfl
theorem zw_ials {a pc' : Nat} {i : Int32} (hdg : decode (zx_mb t) pc = .ok (.iaload, 1)) (hp : pc + 1 = pc') (hi : a < 5 ∧ ¬ i < 0 ∧ i.toNatClampNeg < (zx_sa.getD a []).length) (kk : zx_W sc nc ns d t pc' L (.inl ((zx_sa.getD a []).getD i.toNatClampNeg 0) :: r) h Q) : zx_W sc nc ns d t pc L (.inl i :: .inr (.inr (4, a)) :: r) h Q := by
  subst hp
  refine zx_W_ins hdg rfl (fun run => ?_) rfl kk
  show zx_ial sc pc L (.inl i :: .inr (.inr (4, a)) :: r) h nc ns = _
  unfold zx_ial
  simp only
  rw [if_pos hi]
  rfl
theorem zw_ias {a pc' : Nat} {i x : Int32} {f : List Int32} (hdg : decode (zx_mb t) pc = .ok (.iastore, 1)) (hp : pc + 1 = pc') (ha : h[a]? = some (.inr (0, .inl f))) (hi : ¬ i < 0 ∧ i.toNatClampNeg < f.length) (kk : zx_W sc nc ns d t pc' L r (h.set a (.inr (0, .inl (f.set i.toNatClampNeg x)))) Q) : zx_W sc nc ns d t pc L (.inl x :: .inl i :: .inr (.inr (1, a)) :: r) h Q := by
  subst hp
  refine zx_W_ins hdg rfl (fun run => ?_) (List.length_set ..) kk
  show zx_ias pc L (.inl x :: .inl i :: .inr (.inr (1, a)) :: r) h nc ns = _
  unfold zx_ias
  simp only [ha]
  rw [if_pos hi]
  rfl
theorem zw_lal {a pc' : Nat} {i : Int32} {f : List Int64} (hdg : decode (zx_mb t) pc = .ok (.laload, 1)) (hp : pc + 1 = pc') (ha : h[a]? = some (.inr (1, .inr (.inl f)))) (hi : ¬ i < 0 ∧ i.toNatClampNeg < f.length) (kk : zx_W sc nc ns d t pc' L (.inr (.inl (f.getD i.toNatClampNeg 0)) :: r) h Q) : zx_W sc nc ns d t pc L (.inl i :: .inr (.inr (1, a)) :: r) h Q := by
  subst hp
  refine zx_W_ins hdg rfl (fun run => ?_) rfl kk
  show zx_lal pc L (.inl i :: .inr (.inr (1, a)) :: r) h nc ns = _
  unfold zx_lal
  simp only [ha]
  rw [if_pos hi]
  rfl
theorem zw_las {a pc' : Nat} {i : Int32} {x : Int64} {f : List Int64} (hdg : decode (zx_mb t) pc = .ok (.lastore, 1)) (hp : pc + 1 = pc') (ha : h[a]? = some (.inr (1, .inr (.inl f)))) (hi : ¬ i < 0 ∧ i.toNatClampNeg < f.length) (kk : zx_W sc nc ns d t pc' L r (h.set a (.inr (1, .inr (.inl (f.set i.toNatClampNeg x))))) Q) : zx_W sc nc ns d t pc L (.inr (.inl x) :: .inl i :: .inr (.inr (1, a)) :: r) h Q := by
  subst hp
  refine zx_W_ins hdg rfl (fun run => ?_) (List.length_set ..) kk
  show zx_las pc L (.inr (.inl x) :: .inl i :: .inr (.inr (1, a)) :: r) h nc ns = _
  unfold zx_las
  simp only [ha]
  rw [if_pos hi]
  rfl
theorem zw_aal {a pc' t0 : Nat} {i : Int32} {f : List (Option Nat)} (hdg : decode (zx_mb t) pc = .ok (.aaload, 1)) (hp : pc + 1 = pc') (ha : h[a]? = some (.inr (t0, .inr (.inr f)))) (ht : t0 = 2 ∨ t0 = 3) (hi : ¬ i < 0 ∧ i.toNatClampNeg < f.length) {b : Nat} (hb : f[i.toNatClampNeg]? = some (some b)) (kk : zx_W sc nc ns d t pc' L (.inr (.inr (1, b)) :: r) h Q) : zx_W sc nc ns d t pc L (.inl i :: .inr (.inr (1, a)) :: r) h Q := by
  subst hp
  refine zx_W_ins hdg rfl (fun run => ?_) rfl kk
  show zx_aal pc L (.inl i :: .inr (.inr (1, a)) :: r) h nc ns = _
  unfold zx_aal
  simp only [ha]
  rw [if_pos ⟨ht, hi⟩, hb]
  rfl
theorem zw_div {x y : Int32} {pc' : Nat} (hdg : decode (zx_mb t) pc = .ok (.idiv, 1)) (hp : pc + 1 = pc') (hy : ¬ y = 0) (kk : zx_W sc nc ns d t pc' L (.inl (x / y) :: r) h Q) : zx_W sc nc ns d t pc L (.inl y :: .inl x :: r) h Q := by
  subst hp
  refine zx_W_ins hdg rfl (fun run => ?_) rfl kk
  show zx_bin .idiv pc L (.inl y :: .inl x :: r) h nc ns = _
  unfold zx_bin zx_b2
  simp only
  rw [if_neg hy]
  rfl
theorem zw_rem {x y : Int32} {pc' : Nat} (hdg : decode (zx_mb t) pc = .ok (.irem, 1)) (hp : pc + 1 = pc') (hy : ¬ y = 0) (kk : zx_W sc nc ns d t pc' L (.inl (x - x / y * y) :: r) h Q) : zx_W sc nc ns d t pc L (.inl y :: .inl x :: r) h Q := by
  subst hp
  refine zx_W_ins hdg rfl (fun run => ?_) rfl kk
  show zx_bin .irem pc L (.inl y :: .inl x :: r) h nc ns = _
  unfold zx_bin zx_b2
  simp only
  rw [if_neg hy]
  rfl
theorem zw_iret {v : Int32} (hdg : decode (zx_mb t) pc = .ok (.ireturn, 1)) {ty : FieldType} (hr : zx_mr t = some ty) (hn : zx_nr ty v = true) (q : Q (some (.inl v)) h) : zx_W sc nc ns d t pc L [.inl v] h Q := by
  refine zx_W_end hdg rfl (fun run => ?_) q
  show zx_ir (zx_mr t) [.inl v] h nc ns = _
  unfold zx_ir
  rw [hr]
  simp only
  rw [if_pos hn]
theorem zw_vret (hdg : decode (zx_mb t) pc = .ok (.return_, 1)) (hr : zx_mr t = none) (q : Q none h) : zx_W sc nc ns d t pc L [] h Q := by
  refine zx_W_end hdg rfl (fun run => ?_) q
  show zx_vr (zx_mr t) [] h nc ns = _
  unfold zx_vr
  rw [hr]
theorem zw_lret {v : Int64} (hdg : decode (zx_mb t) pc = .ok (.lreturn, 1)) (hr : zx_mr t = some .long) (q : Q (some (.inr (.inl v))) h) : zx_W sc nc ns d t pc L [.inr (.inl v)] h Q := by
  refine zx_W_end hdg rfl (fun run => ?_) q
  show zx_lr (zx_mr t) [.inr (.inl v)] h nc ns = _
  unfold zx_lr
  rw [hr]
end
section
variable {sc : zx_Sc} {d nc ns : Nat} {t : zx_MT} {pc : Nat} {L : List (Option zx_V)} {S r : List zx_V} {h : List zx_C} {Q : Option zx_V → List zx_C → Prop}
/-- a virtual call on an object of ours -/
theorem zw_iv {a ix k ci pc' : Nat} {np : Nat × Nat} {fs as : List zx_V} (hdg : decode (zx_mb t) pc = .ok (.invokevirtual ix, 3)) (hp : pc + 3 = pc') (hk : zx_lk zx_lM (zx_mo t) ix = some (k, np)) (hkk : (decide (zx_mk (zx_m k) = 0) && decide (k < 221)) = true) (hd : S.drop (zx_mp (zx_m k)) = .inr (.inr (1, a)) :: r) (ha : h[a]? = some (.inl (ci, fs))) (hc : (decide (ci = zx_mo (zx_m k)) && (decide (ci < 9) && (decide (zx_cs r ≤ 8) && decide (zx_mp (zx_m k) ≤ S.length)))) = true) (has : (S.take (zx_mp (zx_m k))).reverse = as)
    (hM : zx_M d k (.inr (.inr (1, a)) :: as) h (fun v h' => h'.length = h.length → zx_W sc nc ns (d + 1) t pc' L (v.toList ++ r) h' Q)) : zx_W sc nc ns (d + 1) t pc L S h Q := by
  subst hp has
  simp only [Bool.and_eq_true, decide_eq_true_eq] at hkk hc
  refine zx_W_call hdg rfl (fun run => ?_) hM
  show zx_iv run (zx_mo t) ix pc L S h nc ns = _
  unfold zx_iv
  simp only [hk]
  rw [if_pos hkk]
  simp only [hd, ha]
  rw [if_pos hc]
theorem zw_is {ix k pc' : Nat} {np : Nat × Nat} {as : List zx_V} (hdg : decode (zx_mb t) pc = .ok (.invokestatic ix, 3)) (hp : pc + 3 = pc') (hk : zx_lk zx_lM (zx_mo t) ix = some (k, np)) (hkk : (decide (zx_mk (zx_m k) = 1) && (decide (k < 221) && (decide (zx_cs (S.drop (zx_mp (zx_m k))) ≤ 8) && decide (zx_mp (zx_m k) ≤ S.length)))) = true) (has : (S.take (zx_mp (zx_m k))).reverse = as) (hd : S.drop (zx_mp (zx_m k)) = r)
    (hM : zx_M d k as h (fun v h' => h'.length = h.length → zx_W sc nc ns (d + 1) t pc' L (v.toList ++ r) h' Q)) : zx_W sc nc ns (d + 1) t pc L S h Q := by
  subst hp has hd
  simp only [Bool.and_eq_true, decide_eq_true_eq] at hkk
  refine zx_W_call hdg rfl (fun run => ?_) hM
  show zx_is run (zx_mo t) ix pc L S h nc ns = _
  unfold zx_is
  simp only [hk]
  rw [if_pos hkk]
end
end
section
/-! part 21: small methods: laid by wip/p2/leaves.py (the rows fb_.. began as the kit's) -/
theorem fb_rng (x : Int32) : -2147483648 ≤ x.toInt ∧ x.toInt < 2147483648 := by
  have h1 := Int32.le_toInt x
  have h2 := Int32.toInt_lt x
  omega
theorem fb_bmod {z : Int} (h1 : -2147483648 ≤ z) (h2 : z < 2147483648) : z.bmod (2 ^ 32) = z := by
  rw [Int.bmod_eq_of_le (by omega) (by omega)]
theorem fb_addI {x y : Int32} (h1 : -2147483648 ≤ x.toInt + y.toInt) (h2 : x.toInt + y.toInt < 2147483648) : (x + y).toInt = x.toInt + y.toInt := by
  rw [Int32.toInt_add, fb_bmod h1 h2]
theorem fb_subI {x y : Int32} (h1 : -2147483648 ≤ x.toInt - y.toInt) (h2 : x.toInt - y.toInt < 2147483648) : (x - y).toInt = x.toInt - y.toInt := by
  rw [Int32.toInt_sub, fb_bmod h1 h2]
theorem fb_mulI {x y : Int32} (h1 : -2147483648 ≤ x.toInt * y.toInt) (h2 : x.toInt * y.toInt < 2147483648) : (x * y).toInt = x.toInt * y.toInt := by
  rw [Int32.toInt_mul, fb_bmod h1 h2]
theorem fb_negI {x : Int32} (h : x.toInt ≠ -2147483648) : (-x).toInt = -x.toInt := by
  have := fb_rng x
  rw [Int32.toInt_neg, fb_bmod (by omega) (by omega)]
section
variable {sc : zx_Sc} {d nc ns : Nat} {t : zx_MT} {pc : Nat} {L : List (Option zx_V)} {S r : List zx_V} {h : List zx_C} {Q : Option zx_V → List zx_C → Prop}
theorem zw_gs {ix g pc' : Nat} {np : Nat × Nat} (hdg : decode (zx_mb t) pc = .ok (.getstatic ix, 3)) (hp : pc + 3 = pc') (hk : zx_lk zx_lG (zx_mo t) ix = some (g, np)) (hg : g < 5) (kk : zx_W sc nc ns d t pc' L (.inr (.inr (4, g)) :: S) h Q) : zx_W sc nc ns d t pc L S h Q := by
  subst hp
  refine zx_W_ins hdg rfl (fun run => ?_) rfl kk
  show zx_gs (zx_mo t) ix pc L S h nc ns = _
  unfold zx_gs
  simp only [hk]
  rw [if_pos hg]
  rfl
theorem zw_max {ix k pc' : Nat} {np : Nat × Nat} {x y : Int32} (hdg : decode (zx_mb t) pc = .ok (.invokestatic ix, 3)) (hp : pc + 3 = pc') (hk : zx_lk zx_lM (zx_mo t) ix = some (k, np)) (hkk : (decide (zx_mk (zx_m k) = 3) && (decide (k < 221) && decide (zx_cs r ≤ 8))) = true) (kk : zx_W sc nc ns d t pc' L (.inl (if x < y then y else x) :: r) h Q) : zx_W sc nc ns d t pc L (.inl y :: .inl x :: r) h Q := by
  subst hp
  simp only [Bool.and_eq_true, decide_eq_true_eq] at hkk
  refine zx_W_ins hdg rfl (fun run => ?_) rfl kk
  show zx_is run (zx_mo t) ix pc L (.inl y :: .inl x :: r) h nc ns = _
  unfold zx_is
  simp only [hk]
  rw [if_neg (fun z => by rw [hkk.1] at z; exact absurd z.1 (by decide)), if_pos ⟨hkk.2.2, hkk.2.1⟩, if_pos hkk.1]
  rfl
theorem zw_min {ix k pc' : Nat} {np : Nat × Nat} {x y : Int32} (hdg : decode (zx_mb t) pc = .ok (.invokestatic ix, 3)) (hp : pc + 3 = pc') (hk : zx_lk zx_lM (zx_mo t) ix = some (k, np)) (hkk : (decide (zx_mk (zx_m k) = 4) && (decide (k < 221) && decide (zx_cs r ≤ 8))) = true) (kk : zx_W sc nc ns d t pc' L (.inl (if y < x then y else x) :: r) h Q) : zx_W sc nc ns d t pc L (.inl y :: .inl x :: r) h Q := by
  subst hp
  simp only [Bool.and_eq_true, decide_eq_true_eq] at hkk
  refine zx_W_ins hdg rfl (fun run => ?_) rfl kk
  show zx_is run (zx_mo t) ix pc L (.inl y :: .inl x :: r) h nc ns = _
  unfold zx_is
  simp only [hk]
  rw [if_neg (fun z => by rw [hkk.1] at z; exact absurd z.1 (by decide)), if_pos ⟨hkk.2.2, hkk.2.1⟩, if_neg (fun z => by rw [hkk.1] at z; exact absurd z (by decide)), if_pos hkk.1]
  rfl
end
def zl_all (P : Nat → Nat → Prop) (i : Nat) (l : List Nat) : Prop := ∀ (j tg : Nat), l[j]? = some tg → P (i + j) tg
theorem zl_nil {P : Nat → Nat → Prop} {i : Nat} : zl_all P i [] := fun j tg h => by cases h
theorem zl_cons {P : Nat → Nat → Prop} {i a : Nat} {r : List Nat} (h : P i a) (k : zl_all P (i + 1) r) : zl_all P i (a :: r) := by
  intro j tg hj
  cases j with
  | zero => cases hj; exact h
  | succ j =>
    have e : i + (j + 1) = i + 1 + j := by omega
    rw [e]
    exact k j tg hj
section
variable {sc : zx_Sc} {d nc ns : Nat} {t : zx_MT} {pc : Nat} {L : List (Option zx_V)} {S r : List zx_V} {h : List zx_C} {Q : Option zx_V → List zx_C → Prop}
theorem zw_tsc {dflt lo hi : Int} {offs : Array Int} {len : Nat} {x : Int32} {tgd : Nat} (hdg : decode (zx_mb t) pc = .ok (.tableswitch dflt lo hi offs, len)) (hd : (pc : Int) + dflt = (tgd : Int)) (tgts : List Nat) (ht : offs.toList.map (fun o => (pc : Int) + o) = tgts.map (fun n : Nat => (n : Int))) (hsz : hi - lo + 1 = (offs.size : Int))
    (kd : (x.toInt < lo ∨ hi < x.toInt) → zx_W sc nc ns d t tgd L r h Q) (kin : zl_all (fun i tg => x.toInt = lo + (i : Int) → zx_W sc nc ns d t tg L r h Q) 0 tgts) : zx_W sc nc ns d t pc L (.inl x :: r) h Q := by
  by_cases g : x.toInt < lo ∨ hi < x.toInt
  · refine zx_W_ins hdg rfl (fun run => ?_) rfl (kd g)
    show zx_tsw dflt lo hi offs pc L (.inl x :: r) h nc ns = _
    unfold zx_tsw
    simp only
    rw [if_pos g]
    unfold zx_J
    rw [if_pos (by omega), show ((pc : Int) + dflt).toNat = tgd by omega]
    rfl
  · have hlt : (x.toInt - lo).toNat < offs.size := by omega
    have e1 : offs[(x.toInt - lo).toNat]? = some offs[(x.toInt - lo).toNat] := Array.getElem?_eq_getElem hlt
    have e2 : (offs.toList.map (fun o => (pc : Int) + o))[(x.toInt - lo).toNat]? = some ((pc : Int) + offs[(x.toInt - lo).toNat]) := by
      rw [List.getElem?_map, Array.getElem?_toList, e1]
      rfl
    rw [ht, List.getElem?_map] at e2
    cases e3 : tgts[(x.toInt - lo).toNat]? with
    | none => rw [e3] at e2; cases e2
    | some tg =>
      rw [e3] at e2
      have e4 : (tg : Int) = (pc : Int) + offs[(x.toInt - lo).toNat] := Option.some.inj e2
      refine zx_W_ins hdg rfl (fun run => ?_) rfl (kin _ tg e3 (by omega))
      show zx_tsw dflt lo hi offs pc L (.inl x :: r) h nc ns = _
      unfold zx_tsw
      simp only
      rw [if_neg g, e1]
      show zx_J pc offs[(x.toInt - lo).toNat] L r h nc ns = _
      unfold zx_J
      rw [if_pos (by omega), show ((pc : Int) + offs[(x.toInt - lo).toNat]).toNat = tg by omega]
      rfl
end
end
section
/-! part 22: the cells as one flat memory; part 20's rules over it: laid by wip/flat/flat.py -/
abbrev zf_Me : Type := (Nat → Nat → Int32) × (Nat → Nat → Int64)
abbrev zf_Sh : Type := (Nat × List (Option Nat)) ⊕ (Nat × Nat) ⊕ (Nat × List Nat)
def zf_shl : List zf_Sh := [.inl (7, [some 1, some 2, some 9, some 16, some 18, some 21, some 35, some 44, some 46, none, none]),
  .inr (.inr (2, [47, 49, 51, 53, 55, 57, 59, 61])),
  .inl (5, [some 3, some 8, none, none, none, none, none, none, none, none, none, none, none]),
  .inl (6, [some 4, some 5, some 6, some 7, none, none]),
  .inr (.inl (0, 24)),
  .inr (.inl (0, 24)),
  .inr (.inl (0, 6)),
  .inr (.inl (0, 6)),
  .inr (.inl (0, 6)),
  .inl (5, [some 10, some 15, none, none, none, none, none, none, none, none, none, none, none]),
  .inl (6, [some 11, some 12, some 13, some 14, none, none]),
  .inr (.inl (0, 24)),
  .inr (.inl (0, 24)),
  .inr (.inl (0, 6)),
  .inr (.inl (0, 6)),
  .inr (.inl (0, 6)),
  .inl (5, [some 3, some 17, none, none, none, none, none, none, none, none, none, none, none]),
  .inr (.inl (0, 6)),
  .inl (1, [some 19, none, none, none]),
  .inl (5, [some 3, some 20, none, none, none, none, none, none, none, none, none, none, none]),
  .inr (.inl (0, 6)),
  .inl (2, [some 22, some 23, some 24, none, none, none, none, none]),
  .inr (.inr (3, [25, 27, 29, 31, 33])),
  .inr (.inl (0, 4)),
  .inr (.inl (0, 4)),
  .inl (5, [some 3, some 26, none, none, none, none, none, none, none, none, none, none, none]),
  .inr (.inl (0, 6)),
  .inl (5, [some 3, some 28, none, none, none, none, none, none, none, none, none, none, none]),
  .inr (.inl (0, 6)),
  .inl (5, [some 3, some 30, none, none, none, none, none, none, none, none, none, none, none]),
  .inr (.inl (0, 6)),
  .inl (5, [some 3, some 32, none, none, none, none, none, none, none, none, none, none, none]),
  .inr (.inl (0, 6)),
  .inl (5, [some 3, some 34, none, none, none, none, none, none, none, none, none, none, none]),
  .inr (.inl (0, 6)),
  .inl (4, [some 36, some 43, none, none, none, none, none]),
  .inl (5, [some 37, some 42, none, none, none, none, none, none, none, none, none, none, none]),
  .inl (6, [some 38, some 39, some 40, some 41, none, none]),
  .inr (.inl (0, 24)),
  .inr (.inl (0, 24)),
  .inr (.inl (0, 6)),
  .inr (.inl (0, 6)),
  .inr (.inl (0, 6)),
  .inr (.inl (0, 160)),
  .inl (0, [some 45, none, none, none, none]),
  .inr (.inl (0, 20)),
  .inr (.inl (0, 8)),
  .inl (3, [some 48, none, none]),
  .inr (.inl (1, 160)),
  .inl (3, [some 50, none, none]),
  .inr (.inl (1, 160)),
  .inl (3, [some 52, none, none]),
  .inr (.inl (1, 160)),
  .inl (3, [some 54, none, none]),
  .inr (.inl (1, 160)),
  .inl (3, [some 56, none, none]),
  .inr (.inl (1, 160)),
  .inl (3, [some 58, none, none]),
  .inr (.inl (1, 160)),
  .inl (3, [some 60, none, none]),
  .inr (.inl (1, 160)),
  .inl (3, [some 62, none, none]),
  .inr (.inl (1, 160)),
  .inl (8, [none, none, none, none, none, none, none, none, none, none, none, none, none, none, some 64, some 65, some 66, some 67, some 68, some 69, some 70, some 71, some 72, some 73, some 74, some 75, some 76, some 77, some 78, none, none, none, none, none, some 79, some 80, some 81, some 82, some 83, some 84, none, none, none, none, none, none, none, none, none, none, some 85, none, none]),
  .inr (.inl (0, 8)),
  .inr (.inl (0, 24)),
  .inr (.inl (0, 24)),
  .inr (.inl (0, 6)),
  .inr (.inl (0, 6)),
  .inr (.inl (0, 6)),
  .inr (.inl (0, 8)),
  .inr (.inl (0, 8)),
  .inr (.inl (0, 8)),
  .inr (.inl (0, 8)),
  .inr (.inl (1, 1280)),
  .inr (.inl (1, 160)),
  .inr (.inl (0, 75)),
  .inr (.inl (0, 12)),
  .inr (.inl (0, 2)),
  .inr (.inl (0, 90)),
  .inr (.inl (0, 90)),
  .inr (.inl (0, 90)),
  .inr (.inl (0, 450)),
  .inr (.inl (0, 4)),
  .inr (.inl (0, 4)),
  .inr (.inl (0, 20))]
def zf_sh (c : Nat) : zf_Sh := (zf_shl[c]?).getD (.inr (.inl (9, 0)))
def zf_fs (f : Nat → Int32) : Nat → List (Option Nat) → List zx_V
  | _, [] => []
  | k, some r :: t => .inr (.inr (1, r)) :: zf_fs f (k + 1) t
  | k, none :: t => .inl (f k) :: zf_fs f (k + 1) t
def zf_c (f : Nat → Int32) (g : Nat → Int64) : zf_Sh → zx_C
  | .inl (ci, fs) => .inl (ci, zf_fs f 0 fs)
  | .inr (.inl (0, n)) => .inr (0, .inl ((List.range n).map f))
  | .inr (.inl (_ + 1, n)) => .inr (1, .inr (.inl ((List.range n).map g)))
  | .inr (.inr (t, l)) => .inr (t, .inr (.inr (l.map some)))
def zf_E (m : zf_Me) : List zx_C := (List.range 86).map (fun c => zf_c (m.1 c) (m.2 c) (zf_sh c))
theorem zf_len (m : zf_Me) : (zf_E m).length = 86 := by simp [zf_E]
theorem zf_get {m : zf_Me} {c : Nat} (h : c < 86) : (zf_E m)[c]? = some (zf_c (m.1 c) (m.2 c) (zf_sh c)) := by
  unfold zf_E
  rw [List.getElem?_map, List.getElem?_range h]
  rfl
theorem zf_fs_len (f : Nat → Int32) : ∀ (fs : List (Option Nat)) (k : Nat), (zf_fs f k fs).length = fs.length
  | [], _ => rfl
  | some r :: t, k => by show (zf_fs f (k + 1) t).length + 1 = t.length + 1; rw [zf_fs_len f t]
  | none :: t, k => by show (zf_fs f (k + 1) t).length + 1 = t.length + 1; rw [zf_fs_len f t]
theorem zf_fs_int (f : Nat → Int32) : ∀ (fs : List (Option Nat)) (k j : Nat), fs[j]? = some none → (zf_fs f k fs)[j]? = some (.inl (f (k + j)))
  | [], _, _, h => by cases h
  | some r :: t, k, 0, h => by cases h
  | none :: t, k, 0, h => rfl
  | some r :: t, k, j + 1, h => by
    show (zf_fs f (k + 1) t)[j]? = _
    rw [zf_fs_int f t (k + 1) j h, show k + 1 + j = k + (j + 1) by omega]
  | none :: t, k, j + 1, h => by
    show (zf_fs f (k + 1) t)[j]? = _
    rw [zf_fs_int f t (k + 1) j h, show k + 1 + j = k + (j + 1) by omega]
theorem zf_fs_ref (f : Nat → Int32) : ∀ (fs : List (Option Nat)) (k j r : Nat), fs[j]? = some (some r) → (zf_fs f k fs)[j]? = some (.inr (.inr (1, r)))
  | [], _, _, _, h => by cases h
  | some r :: t, k, 0, r2, h => by cases h; rfl
  | none :: t, k, 0, r2, h => by cases h
  | some r :: t, k, j + 1, r2, h => zf_fs_ref f t (k + 1) j r2 h
  | none :: t, k, j + 1, r2, h => zf_fs_ref f t (k + 1) j r2 h
theorem zf_fs_up (f : Nat → Int32) (v : Int32) (i : Nat) : ∀ (fs : List (Option Nat)) (k : Nat), i < k → zf_fs (fun b => if b = i then v else f b) k fs = zf_fs f k fs
  | [], _, _ => rfl
  | some r :: t, k, h => by
    show _ :: zf_fs _ (k + 1) t = _ :: zf_fs _ (k + 1) t
    rw [zf_fs_up f v i t (k + 1) (by omega)]
  | none :: t, k, h => by
    show (.inl (if k = i then v else f k)) :: zf_fs _ (k + 1) t = .inl (f k) :: zf_fs _ (k + 1) t
    rw [zf_fs_up f v i t (k + 1) (by omega), if_neg (by omega)]
theorem zf_fs_set (f : Nat → Int32) (v : Int32) : ∀ (fs : List (Option Nat)) (k j : Nat), fs[j]? = some none → (zf_fs f k fs).set j (.inl v) = zf_fs (fun b => if b = k + j then v else f b) k fs
  | [], _, _, h => by cases h
  | some r :: t, k, 0, h => by cases h
  | none :: t, k, 0, h => by
    show .inl v :: zf_fs f (k + 1) t = .inl (if k = k then v else f k) :: zf_fs (fun b => if b = k then v else f b) (k + 1) t
    rw [if_pos rfl, zf_fs_up f v k t (k + 1) (by omega)]
  | some r :: t, k, j + 1, h => by
    show _ :: (zf_fs f (k + 1) t).set j (.inl v) = _ :: zf_fs _ (k + 1) t
    rw [zf_fs_set f v t (k + 1) j h, show k + 1 + j = k + (j + 1) by omega]
  | none :: t, k, j + 1, h => by
    show .inl (f k) :: (zf_fs f (k + 1) t).set j (.inl v) = .inl (if k = k + (j + 1) then v else f k) :: zf_fs _ (k + 1) t
    rw [zf_fs_set f v t (k + 1) j h, show k + 1 + j = k + (j + 1) by omega, if_neg (by omega)]
def zf_u (m : zf_Me) (c k : Nat) (v : Int32) : zf_Me := (fun a => if a = c then (fun b => if b = k then v else m.1 c b) else m.1 a, m.2)
def zf_ul (m : zf_Me) (c k : Nat) (v : Int64) : zf_Me := (m.1, fun a => if a = c then (fun b => if b = k then v else m.2 c b) else m.2 a)
def zf_cp (m : zf_Me) (x y sp dp n : Nat) : zf_Me := (fun a => if a = y then (fun b => if dp ≤ b ∧ b < dp + n then m.1 x (sp + (b - dp)) else m.1 y b) else m.1 a, m.2)
def zf_cpl (m : zf_Me) (x y sp dp n : Nat) : zf_Me := (m.1, fun a => if a = y then (fun b => if dp ≤ b ∧ b < dp + n then m.2 x (sp + (b - dp)) else m.2 y b) else m.2 a)
theorem zf_E_set {m m' : zf_Me} {c : Nat} {x : zx_C} (hc : c < 86) (hx : x = zf_c (m'.1 c) (m'.2 c) (zf_sh c)) (ho : ∀ a, a ≠ c → m'.1 a = m.1 a ∧ m'.2 a = m.2 a) : (zf_E m).set c x = zf_E m' := by
  apply List.ext_getElem?
  intro i
  by_cases hi : i < 86
  · by_cases e : c = i
    · subst e
      rw [List.getElem?_set_self (by rw [zf_len]; exact hi), zf_get hi, hx]
    · rw [List.getElem?_set_ne e, zf_get hi, zf_get hi, (ho i (Ne.symm e)).1, (ho i (Ne.symm e)).2]
  · rw [List.getElem?_eq_none (by rw [List.length_set, zf_len]; omega), List.getElem?_eq_none (by rw [zf_len]; omega)]
theorem zf_put {m : zf_Me} {c ci k : Nat} {fs : List (Option Nat)} {v : Int32} (hc : c < 86) (hs : zf_sh c = .inl (ci, fs)) (hk : fs[k]? = some none) : (zf_E m).set c (.inl (ci, (zf_fs (m.1 c) 0 fs).set k (.inl v))) = zf_E (zf_u m c k v) := by
  refine zf_E_set hc ?_ (fun a ha => ⟨if_neg ha, rfl⟩)
  rw [hs, zf_fs_set _ _ _ _ _ hk]
  show _ = Sum.inl (ci, zf_fs (if c = c then (fun b => if b = k then v else m.1 c b) else m.1 c) 0 fs)
  rw [if_pos rfl, Nat.zero_add]
theorem zf_rs {α : Type} {n i : Nat} {f : Nat → α} {v : α} : ((List.range n).map f).set i v = (List.range n).map (fun b => if b = i then v else f b) := by
  apply List.ext_getElem?
  intro j
  rw [List.getElem?_set, List.getElem?_map, List.getElem?_map, List.length_map, List.length_range]
  by_cases hj : j < n
  · rw [List.getElem?_range hj]
    by_cases e : i = j
    · subst e
      rw [if_pos rfl, if_pos hj]
      simp
    · rw [if_neg e]
      simp [Ne.symm e]
  · rw [List.getElem?_eq_none (by rw [List.length_range]; omega)]
    split
    · rw [if_neg (by omega)]
      rfl
    · rfl
theorem zf_gr {α : Type} {n i : Nat} {f : Nat → α} {d0 : α} (h : i < n) : ((List.range n).map f).getD i d0 = f i := by
  rw [List.getD_eq_getElem?_getD, List.getElem?_map, List.getElem?_range h]
  rfl
theorem zf_lr {α : Type} {n : Nat} {f : Nat → α} : ((List.range n).map f).length = n := by simp
theorem zf_set {m : zf_Me} {c n i : Nat} {v : Int32} (hc : c < 86) (hs : zf_sh c = .inr (.inl (0, n))) : (zf_E m).set c (.inr (0, .inl (((List.range n).map (m.1 c)).set i v))) = zf_E (zf_u m c i v) := by
  refine zf_E_set hc ?_ (fun a ha => ⟨if_neg ha, rfl⟩)
  rw [hs, zf_rs]
  show _ = Sum.inr (0, Sum.inl ((List.range n).map (if c = c then (fun b => if b = i then v else m.1 c b) else m.1 c)))
  rw [if_pos rfl]
theorem zf_setl {m : zf_Me} {c n i : Nat} {v : Int64} (hc : c < 86) (hs : zf_sh c = .inr (.inl (1, n))) : (zf_E m).set c (.inr (1, .inr (.inl (((List.range n).map (m.2 c)).set i v)))) = zf_E (zf_ul m c i v) := by
  refine zf_E_set hc ?_ (fun a ha => ⟨rfl, if_neg ha⟩)
  rw [hs, zf_rs]
  show _ = Sum.inr (1, Sum.inr (Sum.inl ((List.range n).map (if c = c then (fun b => if b = i then v else m.2 c b) else m.2 c))))
  rw [if_pos rfl]
theorem zf_cpr {α : Type} {f g : Nat → α} {n k sp dp z : Nat} (h1 : sp + z ≤ n) (h2 : dp + z ≤ k) : zx_cpy ((List.range n).map f) ((List.range k).map g) sp dp z = (List.range k).map (fun b => if dp ≤ b ∧ b < dp + z then f (sp + (b - dp)) else g b) := by
  unfold zx_cpy
  apply List.ext_getElem?
  intro j
  rw [List.getElem?_append, List.length_take, zf_lr, Nat.min_eq_left (by omega)]
  split
  · rename_i hj
    rw [List.getElem?_take_of_lt hj, List.getElem?_map, List.getElem?_map, List.getElem?_range (by omega)]
    show some (g j) = some (if _ then _ else _)
    rw [if_neg (by omega)]
  · rename_i hj
    rw [List.getElem?_append, List.length_take, List.length_drop, zf_lr, Nat.min_eq_left (by omega)]
    split
    · rename_i hz
      rw [List.getElem?_take_of_lt hz, List.getElem?_drop, List.getElem?_map, List.getElem?_map, List.getElem?_range (by omega), List.getElem?_range (by omega)]
      show some (f (sp + (j - dp))) = some (if _ then _ else _)
      rw [if_pos (by omega)]
    · rename_i hz
      rw [List.getElem?_drop, List.getElem?_map, List.getElem?_map, show dp + z + (j - dp - z) = j by omega]
      by_cases hk : j < k
      · rw [List.getElem?_range hk]
        show some (g j) = some (if _ then _ else _)
        rw [if_neg (by omega)]
      · rw [List.getElem?_eq_none (by rw [List.length_range]; omega)]
        rfl
theorem zf_cpi {m : zf_Me} {x y n k sp dp z : Nat} (hy : y < 86) (hs : zf_sh y = .inr (.inl (0, k))) (h1 : sp + z ≤ n) (h2 : dp + z ≤ k) : (zf_E m).set y (.inr (0, .inl (zx_cpy ((List.range n).map (m.1 x)) ((List.range k).map (m.1 y)) sp dp z))) = zf_E (zf_cp m x y sp dp z) := by
  refine zf_E_set hy ?_ (fun a ha => ⟨if_neg ha, rfl⟩)
  rw [hs, zf_cpr h1 h2]
  show _ = Sum.inr (0, Sum.inl ((List.range k).map (if y = y then (fun b => if dp ≤ b ∧ b < dp + z then m.1 x (sp + (b - dp)) else m.1 y b) else m.1 y)))
  rw [if_pos rfl]
theorem zf_cpj {m : zf_Me} {x y n k sp dp z : Nat} (hy : y < 86) (hs : zf_sh y = .inr (.inl (1, k))) (h1 : sp + z ≤ n) (h2 : dp + z ≤ k) : (zf_E m).set y (.inr (1, .inr (.inl (zx_cpy ((List.range n).map (m.2 x)) ((List.range k).map (m.2 y)) sp dp z)))) = zf_E (zf_cpl m x y sp dp z) := by
  refine zf_E_set hy ?_ (fun a ha => ⟨rfl, if_neg ha⟩)
  rw [hs, zf_cpr h1 h2]
  show _ = Sum.inr (1, Sum.inr (Sum.inl ((List.range k).map (if y = y then (fun b => if dp ≤ b ∧ b < dp + z then m.2 x (sp + (b - dp)) else m.2 y b) else m.2 y))))
  rw [if_pos rfl]
-- what of the variables is known
def zf_le (L L' : List (Option zx_V)) : Prop := L.length = L'.length ∧ (∀ (i : Nat) (v : zx_V), L[i]? = some (some v) → L'[i]? = some (some v)) ∧ (∀ (i : Nat) (x : Int64), L'[i]? = some (some (Sum.inr (Sum.inl x))) → L[i]? = some (some (Sum.inr (Sum.inl x))))
theorem zf_le_refl (L : List (Option zx_V)) : zf_le L L := ⟨rfl, fun _ _ h => h, fun _ _ h => h⟩
theorem zf_le_trans {A B D : List (Option zx_V)} (h : zf_le A B) (k : zf_le B D) : zf_le A D := ⟨h.1.trans k.1, fun i v q => k.2.1 i v (h.2.1 i v q), fun i x q => h.2.2 i x (k.2.2 i x q)⟩
theorem zf_le_set {A B : List (Option zx_V)} (h : zf_le A B) (i : Nat) (v : zx_V) : zf_le (A.set i (some v)) (B.set i (some v)) := by
  refine ⟨by rw [List.length_set, List.length_set]; exact h.1, fun j w q => ?_, fun j x q => ?_⟩
  · rw [List.getElem?_set] at q ⊢
    by_cases e : i = j
    · rw [if_pos e] at q ⊢
      split at q
      · rename_i g
        rw [if_pos (by rw [← h.1]; exact g)]
        exact q
      · cases q
    · rw [if_neg e] at q ⊢
      exact h.2.1 j w q
  · rw [List.getElem?_set] at q ⊢
    by_cases e : i = j
    · rw [if_pos e] at q ⊢
      split at q
      · rename_i g
        rw [if_pos (by rw [h.1]; exact g)]
        exact q
      · cases q
    · rw [if_neg e] at q ⊢
      exact h.2.2 j x q
def zf_nl (L : List (Option zx_V)) : Nat → Bool
  | 0 => true
  | i + 1 => match L[i]? with
    | some (some (.inr (.inl _))) => false
    | _ => true
theorem zf_cl1 {A B : List (Option zx_V)} (h : zf_le A B) : ∀ i, zf_nl A i = true → zx_cl1 B i = B
  | 0, _ => rfl
  | i + 1, hn => by
    show (match B[i]? with | some (some (.inr (.inl _))) => B.set i none | _ => B) = B
    split
    · rename_i x e
      replace hn : (match A[i]? with | some (some (.inr (.inl _))) => false | _ => true) = true := hn
      rw [h.2.2 i x e] at hn
      cases hn
    · rfl
/-- a less known list of variables -/
def zf_lb : List (Option zx_V) → List (Option zx_V) → Prop
  | [], [] => True
  | none :: a, some (.inr (.inl _)) :: b => False
  | none :: a, _ :: b => zf_lb a b
  | some v :: a, some w :: b => v = w ∧ zf_lb a b
  | _, _ => False
theorem zf_lb_le : ∀ {A B : List (Option zx_V)}, zf_lb A B → zf_le A B
  | [], [], _ => zf_le_refl []
  | none :: a, none :: b, h => by
    have k := zf_lb_le (A := a) (B := b) h
    exact ⟨congrArg (· + 1) k.1, fun i v q => by cases i with
      | zero => cases q
      | succ i => exact k.2.1 i v q, fun i x q => by cases i with
      | zero => cases q
      | succ i => exact k.2.2 i x q⟩
  | none :: a, some (.inl y) :: b, h => by
    have k := zf_lb_le (A := a) (B := b) h
    exact ⟨congrArg (· + 1) k.1, fun i v q => by cases i with
      | zero => cases q
      | succ i => exact k.2.1 i v q, fun i x q => by cases i with
      | zero => cases q
      | succ i => exact k.2.2 i x q⟩
  | none :: a, some (.inr (.inr y)) :: b, h => by
    have k := zf_lb_le (A := a) (B := b) h
    exact ⟨congrArg (· + 1) k.1, fun i v q => by cases i with
      | zero => cases q
      | succ i => exact k.2.1 i v q, fun i x q => by cases i with
      | zero => cases q
      | succ i => exact k.2.2 i x q⟩
  | some v :: a, some w :: b, h => by
    obtain ⟨rfl, h2⟩ : v = w ∧ zf_lb a b := h
    have k := zf_lb_le (A := a) (B := b) h2
    exact ⟨congrArg (· + 1) k.1, fun i v q => by cases i with
      | zero => exact q
      | succ i => exact k.2.1 i v q, fun i x q => by cases i with
      | zero => exact q
      | succ i => exact k.2.2 i x q⟩
  | none :: a, some (.inr (.inl y)) :: b, h => h.elim
  | [], _ :: _, h => h.elim
  | none :: a, [], h => h.elim
  | some v :: a, [], h => h.elim
  | some v :: a, none :: b, h => h.elim
/-- a state's run ends, in a flat memory again, with Q of its answer and its memory -/
def zf_W (sc : zx_Sc) (nc ns d : Nat) (t : zx_MT) (pc : Nat) (L : List (Option zx_V)) (S : List zx_V) (m : zf_Me) (Q : Option zx_V → zf_Me → Prop) : Prop := ∀ L', zf_le L L' → zx_W sc nc ns d t pc L' S (zf_E m) (fun v h' => ∃ m', h' = zf_E m' ∧ Q v m')
def zf_M (d k : Nat) (as : List zx_V) (m : zf_Me) (Q : Option zx_V → zf_Me → Prop) : Prop := zx_M d k as (zf_E m) (fun v h' => ∃ m', h' = zf_E m' ∧ Q v m')
theorem zf_M_of {d k : Nat} {as : List zx_V} {m : zf_Me} {Q : Option zx_V → zf_Me → Prop} (hc : zx_cs as ≤ zx_mn (zx_m k)) {t : zx_MT} (ht : zx_m k = t) {L : List (Option zx_V)} (hL : zx_L0 (zx_mn t) as = L) (h1 : zf_W none 0 0 d t 0 L [] m Q) : zf_M d k as m Q :=
  zx_M_of hc ht hL (h1 L (zf_le_refl L))
def zb : Bool → Int32
  | true => 1
  | false => 0
def zf_I (Q : Int32 → zf_Me → Prop) (v : Option zx_V) (m : zf_Me) : Prop := ∃ x, v = some (.inl x) ∧ Q x m
def zf_B (Q : Bool → zf_Me → Prop) (v : Option zx_V) (m : zf_Me) : Prop := ∃ b, v = some (.inl (zb b)) ∧ Q b m
def zf_O (Q : zf_Me → Prop) (v : Option zx_V) (m : zf_Me) : Prop := v = none ∧ Q m
def zf_J (Q : Int64 → zf_Me → Prop) (v : Option zx_V) (m : zf_Me) : Prop := ∃ x, v = some (.inr (.inl x)) ∧ Q x m
def zf_T (Q : Nat → zf_Me → Prop) (v : Option zx_V) (m : zf_Me) : Prop := ∃ a, v = some (.inr (.inr (2, a))) ∧ a < 12 ∧ Q a m
section
variable {sc : zx_Sc} {d nc ns : Nat} {t : zx_MT} {pc : Nat} {L L2 : List (Option zx_V)} {S S' r : List zx_V} {m : zf_Me} {Q : Option zx_V → zf_Me → Prop}
theorem zf_lo (h : zf_W sc nc ns d t pc L S m Q) (hl : zf_lb L L2) : zf_W sc nc ns d t pc L2 S m Q := fun L' hL => h L' (zf_le_trans (zf_lb_le hl) hL)
/-- a step that neither calls nor looks at variables or cells -/
theorem zf_in {ins : Instr} {len pc' : Nat} (hdg : decode (zx_mb t) pc = .ok (ins, len)) (hlen : zx_lok ins len = true) (h1 : ∀ run L' h, zx_ins sc run t ins pc L' S h nc ns = zx_N pc' L' S' h nc ns) (k : zf_W sc nc ns d t pc' L S' m Q) : zf_W sc nc ns d t pc L S m Q :=
  fun L' hL => zx_W_ins hdg hlen (fun run => h1 run L' _) rfl (k L' hL)
theorem zf_ld {ins : Instr} {len pc' ty i n : Nat} {v : zx_V} (hdg : decode (zx_mb t) pc = .ok (ins, len)) (hlen : zx_lok ins len = true) (h1 : ∀ run L' h, zx_ins sc run t ins pc L' S h nc ns = zx_ld ty i n pc L' S h nc ns) (hL : L[i]? = some (some v)) (hv : zx_kd v = ty) (hp : pc + n = pc') (k : zf_W sc nc ns d t pc' L (v :: S) m Q) : zf_W sc nc ns d t pc L S m Q := by
  subst hp
  intro L' hl
  refine zx_W_ins hdg hlen (fun run => (h1 run L' _).trans ?_) rfl (k L' hl)
  unfold zx_ld
  rw [hl.2.1 i v hL]
  simp only
  rw [if_pos hv]
  rfl
theorem zf_st {ins : Instr} {len pc' ty i n : Nat} {v : zx_V} (hdg : decode (zx_mb t) pc = .ok (ins, len)) (hlen : zx_lok ins len = true) (h1 : ∀ run L' h, zx_ins sc run t ins pc L' (v :: r) h nc ns = zx_sto ty i n pc L' (v :: r) h nc ns) (hv : zx_kd v = ty) (hc : zx_c1 v = true) (hi : Nat.blt i L.length = true) (hn : zf_nl L i = true) (hL : L.set i (some v) = L2) (hp : pc + n = pc') (k : zf_W sc nc ns d t pc' L2 r m Q) : zf_W sc nc ns d t pc L (v :: r) m Q := by
  subst hp hL
  intro L' hl
  refine zx_W_ins hdg hlen (fun run => (h1 run L' _).trans ?_) rfl (k (L'.set i (some v)) (zf_le_set hl i v))
  unfold zx_sto
  simp only
  rw [if_pos ⟨hv, hc, by rw [← hl.1]; exact Nat.blt_eq.mp hi⟩, zf_cl1 hl i hn]
  rfl
theorem zf_ii {i : Nat} {z : Int} {x : Int32} {pc' : Nat} {y : Int32} (hdg : decode (zx_mb t) pc = .ok (.iinc i z, 3)) (hL : L[i]? = some (some (.inl x))) (hn : zf_nl L i = true) (hy : x + Int32.ofInt z = y) (hL2 : L.set i (some (.inl y)) = L2) (hp : pc + 3 = pc') (k : zf_W sc nc ns d t pc' L2 S m Q) : zf_W sc nc ns d t pc L S m Q := by
  subst hp hL2 hy
  intro L' hl
  refine zx_W_ins hdg rfl (fun run => ?_) rfl (k (L'.set i (some (.inl (x + Int32.ofInt z)))) (zf_le_set hl i _))
  show zx_iinc i z pc L' S _ nc ns = _
  unfold zx_iinc
  rw [hl.2.1 i _ hL]
  simp only
  rw [zf_cl1 hl i hn]
  rfl
theorem zf_icmp_eq {x y : Int32} {off : Int} {tgt pc' : Nat} (hdg : decode (zx_mb t) pc = .ok (.if_icmp .eq off, 3)) (ht : (pc : Int) + off = (tgt : Int)) (hp : pc + 3 = pc') (kt : x.toInt = y.toInt → zf_W sc nc ns d t tgt L r m Q) (kf : ¬ x.toInt = y.toInt → zf_W sc nc ns d t pc' L r m Q) : zf_W sc nc ns d t pc L (.inl y :: .inl x :: r) m Q :=
  fun L' hL => zw_icmp_eq hdg ht hp (fun g => kt (congrArg Int32.toInt g) L' hL) (fun g => kf (fun z => g (Int32.toInt_inj.mp z)) L' hL)
theorem zf_if_eq {x : Int32} {off : Int} {tgt pc' : Nat} (hdg : decode (zx_mb t) pc = .ok (.ifCond .eq off, 3)) (ht : (pc : Int) + off = (tgt : Int)) (hp : pc + 3 = pc') (kt : x.toInt = 0 → zf_W sc nc ns d t tgt L r m Q) (kf : ¬ x.toInt = 0 → zf_W sc nc ns d t pc' L r m Q) : zf_W sc nc ns d t pc L (.inl x :: r) m Q :=
  fun L' hL => zw_if_eq hdg ht hp (fun g => kt (congrArg Int32.toInt g) L' hL) (fun g => kf (fun z => g (Int32.toInt_inj.mp z)) L' hL)
theorem zf_icmp_ne {x y : Int32} {off : Int} {tgt pc' : Nat} (hdg : decode (zx_mb t) pc = .ok (.if_icmp .ne off, 3)) (ht : (pc : Int) + off = (tgt : Int)) (hp : pc + 3 = pc') (kt : ¬ x.toInt = y.toInt → zf_W sc nc ns d t tgt L r m Q) (kf : x.toInt = y.toInt → zf_W sc nc ns d t pc' L r m Q) : zf_W sc nc ns d t pc L (.inl y :: .inl x :: r) m Q :=
  fun L' hL => zw_icmp_ne hdg ht hp (fun g => kt (fun z => g (Int32.toInt_inj.mp z)) L' hL) (fun g => kf (congrArg Int32.toInt g) L' hL)
theorem zf_if_ne {x : Int32} {off : Int} {tgt pc' : Nat} (hdg : decode (zx_mb t) pc = .ok (.ifCond .ne off, 3)) (ht : (pc : Int) + off = (tgt : Int)) (hp : pc + 3 = pc') (kt : ¬ x.toInt = 0 → zf_W sc nc ns d t tgt L r m Q) (kf : x.toInt = 0 → zf_W sc nc ns d t pc' L r m Q) : zf_W sc nc ns d t pc L (.inl x :: r) m Q :=
  fun L' hL => zw_if_ne hdg ht hp (fun g => kt (fun z => g (Int32.toInt_inj.mp z)) L' hL) (fun g => kf (congrArg Int32.toInt g) L' hL)
theorem zf_icmp_lt {x y : Int32} {off : Int} {tgt pc' : Nat} (hdg : decode (zx_mb t) pc = .ok (.if_icmp .lt off, 3)) (ht : (pc : Int) + off = (tgt : Int)) (hp : pc + 3 = pc') (kt : x.toInt < y.toInt → zf_W sc nc ns d t tgt L r m Q) (kf : y.toInt ≤ x.toInt → zf_W sc nc ns d t pc' L r m Q) : zf_W sc nc ns d t pc L (.inl y :: .inl x :: r) m Q :=
  fun L' hL => zw_icmp_lt hdg ht hp (fun g => kt g L' hL) (fun g => kf g L' hL)
theorem zf_if_lt {x : Int32} {off : Int} {tgt pc' : Nat} (hdg : decode (zx_mb t) pc = .ok (.ifCond .lt off, 3)) (ht : (pc : Int) + off = (tgt : Int)) (hp : pc + 3 = pc') (kt : x.toInt < 0 → zf_W sc nc ns d t tgt L r m Q) (kf : 0 ≤ x.toInt → zf_W sc nc ns d t pc' L r m Q) : zf_W sc nc ns d t pc L (.inl x :: r) m Q :=
  fun L' hL => zw_if_lt hdg ht hp (fun g => kt g L' hL) (fun g => kf g L' hL)
theorem zf_icmp_ge {x y : Int32} {off : Int} {tgt pc' : Nat} (hdg : decode (zx_mb t) pc = .ok (.if_icmp .ge off, 3)) (ht : (pc : Int) + off = (tgt : Int)) (hp : pc + 3 = pc') (kt : y.toInt ≤ x.toInt → zf_W sc nc ns d t tgt L r m Q) (kf : x.toInt < y.toInt → zf_W sc nc ns d t pc' L r m Q) : zf_W sc nc ns d t pc L (.inl y :: .inl x :: r) m Q :=
  fun L' hL => zw_icmp_ge hdg ht hp (fun g => kt g L' hL) (fun g => kf g L' hL)
theorem zf_if_ge {x : Int32} {off : Int} {tgt pc' : Nat} (hdg : decode (zx_mb t) pc = .ok (.ifCond .ge off, 3)) (ht : (pc : Int) + off = (tgt : Int)) (hp : pc + 3 = pc') (kt : 0 ≤ x.toInt → zf_W sc nc ns d t tgt L r m Q) (kf : x.toInt < 0 → zf_W sc nc ns d t pc' L r m Q) : zf_W sc nc ns d t pc L (.inl x :: r) m Q :=
  fun L' hL => zw_if_ge hdg ht hp (fun g => kt g L' hL) (fun g => kf g L' hL)
theorem zf_icmp_gt {x y : Int32} {off : Int} {tgt pc' : Nat} (hdg : decode (zx_mb t) pc = .ok (.if_icmp .gt off, 3)) (ht : (pc : Int) + off = (tgt : Int)) (hp : pc + 3 = pc') (kt : y.toInt < x.toInt → zf_W sc nc ns d t tgt L r m Q) (kf : x.toInt ≤ y.toInt → zf_W sc nc ns d t pc' L r m Q) : zf_W sc nc ns d t pc L (.inl y :: .inl x :: r) m Q :=
  fun L' hL => zw_icmp_gt hdg ht hp (fun g => kt g L' hL) (fun g => kf g L' hL)
theorem zf_icmp_le {x y : Int32} {off : Int} {tgt pc' : Nat} (hdg : decode (zx_mb t) pc = .ok (.if_icmp .le off, 3)) (ht : (pc : Int) + off = (tgt : Int)) (hp : pc + 3 = pc') (kt : x.toInt ≤ y.toInt → zf_W sc nc ns d t tgt L r m Q) (kf : y.toInt < x.toInt → zf_W sc nc ns d t pc' L r m Q) : zf_W sc nc ns d t pc L (.inl y :: .inl x :: r) m Q :=
  fun L' hL => zw_icmp_le hdg ht hp (fun g => kt g L' hL) (fun g => kf g L' hL)
theorem zf_if_le {x : Int32} {off : Int} {tgt pc' : Nat} (hdg : decode (zx_mb t) pc = .ok (.ifCond .le off, 3)) (ht : (pc : Int) + off = (tgt : Int)) (hp : pc + 3 = pc') (kt : x.toInt ≤ 0 → zf_W sc nc ns d t tgt L r m Q) (kf : 0 < x.toInt → zf_W sc nc ns d t pc' L r m Q) : zf_W sc nc ns d t pc L (.inl x :: r) m Q :=
  fun L' hL => zw_if_le hdg ht hp (fun g => kt g L' hL) (fun g => kf g L' hL)
theorem zf_ib_eq {b : Bool} {off : Int} {tgt pc' : Nat} (hdg : decode (zx_mb t) pc = .ok (.ifCond .eq off, 3)) (ht : (pc : Int) + off = (tgt : Int)) (hp : pc + 3 = pc') (kt : b = false → zf_W sc nc ns d t tgt L r m Q) (kf : b = true → zf_W sc nc ns d t pc' L r m Q) : zf_W sc nc ns d t pc L (.inl (zb b) :: r) m Q :=
  zf_if_eq hdg ht hp (fun g => kt (by cases b with
    | true => exact absurd g (by decide)
    | false => rfl)) (fun g => kf (by cases b with
    | true => rfl
    | false => exact absurd (by decide) g))
theorem zf_ib_ne {b : Bool} {off : Int} {tgt pc' : Nat} (hdg : decode (zx_mb t) pc = .ok (.ifCond .ne off, 3)) (ht : (pc : Int) + off = (tgt : Int)) (hp : pc + 3 = pc') (kt : b = true → zf_W sc nc ns d t tgt L r m Q) (kf : b = false → zf_W sc nc ns d t pc' L r m Q) : zf_W sc nc ns d t pc L (.inl (zb b) :: r) m Q :=
  zf_if_ne hdg ht hp (fun g => kt (by cases b with
    | true => rfl
    | false => exact absurd (by decide) g)) (fun g => kf (by cases b with
    | true => exact absurd g (by decide)
    | false => rfl))
theorem zf_goto {off : Int} {tgt : Nat} (hdg : decode (zx_mb t) pc = .ok (.goto off, 3)) (ht : (pc : Int) + off = (tgt : Int)) (k : zf_W sc nc ns d t tgt L S m Q) : zf_W sc nc ns d t pc L S m Q :=
  fun L' hL => zw_goto hdg ht (k L' hL)
theorem zf_bi {n : Int} {v : Int32} {pc' : Nat} (hdg : decode (zx_mb t) pc = .ok (.bipush n, 2)) (hp : pc + 2 = pc') (hv : (Int8.ofInt n).toInt32 = v) (k : zf_W sc nc ns d t pc' L (.inl v :: S) m Q) : zf_W sc nc ns d t pc L S m Q :=
  fun L' hL => zw_bi hdg hp hv (k L' hL)
theorem zf_si {n : Int} {v : Int32} {pc' : Nat} (hdg : decode (zx_mb t) pc = .ok (.sipush n, 3)) (hp : pc + 3 = pc') (hv : (Int16.ofInt n).toInt32 = v) (k : zf_W sc nc ns d t pc' L (.inl v :: S) m Q) : zf_W sc nc ns d t pc L S m Q :=
  fun L' hL => zw_si hdg hp hv (k L' hL)
theorem zf_ic {n : Int} {v : Int32} {pc' : Nat} (hdg : decode (zx_mb t) pc = .ok (.iconst n, 1)) (hp : pc + 1 = pc') (hv : Int32.ofInt n = v) (k : zf_W sc nc ns d t pc' L (.inl v :: S) m Q) : zf_W sc nc ns d t pc L S m Q :=
  fun L' hL => zw_ic hdg hp hv (k L' hL)
theorem zf_gfi {a ix ci k pc' : Nat} {np : Nat × Nat} {fs : List (Option Nat)} (hdg : decode (zx_mb t) pc = .ok (.getfield ix, 3)) (hp : pc + 3 = pc') (hk : zx_lk zx_lF (zx_mo t) ix = some (ci, k, np)) (ha : a < 86) (hs : zf_sh a = .inl (ci, fs)) (hf : fs[k]? = some none) (kk : zf_W sc nc ns d t pc' L (.inl (m.1 a k) :: r) m Q) : zf_W sc nc ns d t pc L (.inr (.inr (1, a)) :: r) m Q :=
  fun L' hL => zw_gf (fs := zf_fs (m.1 a) 0 fs) (v := .inl (m.1 a k)) hdg hp hk ((zf_get ha).trans (by rw [hs]; rfl)) ((zf_fs_int _ _ _ _ hf).trans (by rw [Nat.zero_add])) (kk L' hL)
theorem zf_gfr {a ix ci k pc' b : Nat} {np : Nat × Nat} {fs : List (Option Nat)} (hdg : decode (zx_mb t) pc = .ok (.getfield ix, 3)) (hp : pc + 3 = pc') (hk : zx_lk zx_lF (zx_mo t) ix = some (ci, k, np)) (ha : a < 86) (hs : zf_sh a = .inl (ci, fs)) (hf : fs[k]? = some (some b)) (kk : zf_W sc nc ns d t pc' L (.inr (.inr (1, b)) :: r) m Q) : zf_W sc nc ns d t pc L (.inr (.inr (1, a)) :: r) m Q :=
  fun L' hL => zw_gf (fs := zf_fs (m.1 a) 0 fs) (v := .inr (.inr (1, b))) hdg hp hk ((zf_get ha).trans (by rw [hs]; rfl)) (zf_fs_ref _ _ _ _ _ hf) (kk L' hL)
theorem zf_pf {a ix ci k np pp pc' : Nat} {fs : List (Option Nat)} {x : Int32} (hdg : decode (zx_mb t) pc = .ok (.putfield ix, 3)) (hp : pc + 3 = pc') (hk : zx_lk zx_lF (zx_mo t) ix = some (ci, k, np, pp)) (ha : a < 86) (hs : zf_sh a = .inl (ci, fs)) (hf : fs[k]? = some none) (h2 : (Nat.blt k fs.length && (zx_fit (zx_ft ci k) (.inl x) && decide ((zx_T8 ci k).2.2.2 = false))) = true) (kk : ∀ m', m' = zf_u m a k x → zf_W sc nc ns d t pc' L r m' Q) : zf_W sc nc ns d t pc L (.inl x :: .inr (.inr (1, a)) :: r) m Q := by
  intro L' hL
  simp only [Bool.and_eq_true, Nat.blt_eq] at h2
  refine zw_pf hdg hp hk ((zf_get ha).trans (by rw [hs]; rfl)) (fs := zf_fs (m.1 a) 0 fs) ?_ rfl ?_
  · simp only [Bool.and_eq_true, decide_eq_true_eq, zf_fs_len]
    exact ⟨h2.1, h2.2.1, by simpa using h2.2.2⟩
  · rw [zf_put ha hs hf]
    exact kk _ rfl L' hL
theorem zf_ial {a n pc' : Nat} {i : Int32} {j : Nat} (hdg : decode (zx_mb t) pc = .ok (.iaload, 1)) (hp : pc + 1 = pc') (ha : a < 86) (hs : zf_sh a = .inr (.inl (0, n))) (hi : 0 ≤ i.toInt ∧ i.toInt < n) (hj : i.toInt.toNat = j) (kk : zf_W sc nc ns d t pc' L (.inl (m.1 a j) :: r) m Q) : zf_W sc nc ns d t pc L (.inl i :: .inr (.inr (1, a)) :: r) m Q := by
  subst hj
  intro L' hL
  have e := zi_in hi
  refine zw_ial (f := (List.range n).map (m.1 a)) hdg hp ((zf_get ha).trans (by rw [hs]; rfl)) (by rw [zf_lr]; exact e) ?_
  rw [zf_gr e.2]
  exact kk L' hL
theorem zf_ials {a pc' : Nat} {i : Int32} (hdg : decode (zx_mb t) pc = .ok (.iaload, 1)) (hp : pc + 1 = pc') (ha : a < 5) {n : Nat} (hn : (zx_sa.getD a []).length = n) (hi : 0 ≤ i.toInt ∧ i.toInt < n) (kk : zf_W sc nc ns d t pc' L (.inl ((zx_sa.getD a []).getD i.toInt.toNat 0) :: r) m Q) : zf_W sc nc ns d t pc L (.inl i :: .inr (.inr (4, a)) :: r) m Q :=
  fun L' hL => zw_ials hdg hp ⟨ha, by rw [hn]; exact zi_in hi⟩ (kk L' hL)
theorem zf_ias {a n pc' : Nat} {i x : Int32} {j : Nat} (hdg : decode (zx_mb t) pc = .ok (.iastore, 1)) (hp : pc + 1 = pc') (ha : a < 86) (hs : zf_sh a = .inr (.inl (0, n))) (hi : 0 ≤ i.toInt ∧ i.toInt < n) (hj : i.toInt.toNat = j) (kk : ∀ m', m' = zf_u m a j x → zf_W sc nc ns d t pc' L r m' Q) : zf_W sc nc ns d t pc L (.inl x :: .inl i :: .inr (.inr (1, a)) :: r) m Q := by
  subst hj
  intro L' hL
  have e := zi_in hi
  refine zw_ias (f := (List.range n).map (m.1 a)) hdg hp ((zf_get ha).trans (by rw [hs]; rfl)) (by rw [zf_lr]; exact e) ?_
  rw [zf_set ha hs]
  exact kk _ rfl L' hL
theorem zf_lal {a n pc' : Nat} {i : Int32} {j : Nat} (hdg : decode (zx_mb t) pc = .ok (.laload, 1)) (hp : pc + 1 = pc') (ha : a < 86) (hs : zf_sh a = .inr (.inl (1, n))) (hi : 0 ≤ i.toInt ∧ i.toInt < n) (hj : i.toInt.toNat = j) (kk : zf_W sc nc ns d t pc' L (.inr (.inl (m.2 a j)) :: r) m Q) : zf_W sc nc ns d t pc L (.inl i :: .inr (.inr (1, a)) :: r) m Q := by
  subst hj
  intro L' hL
  have e := zi_in hi
  refine zw_lal (f := (List.range n).map (m.2 a)) hdg hp ((zf_get ha).trans (by rw [hs]; rfl)) (by rw [zf_lr]; exact e) ?_
  rw [zf_gr e.2]
  exact kk L' hL
theorem zf_las {a n pc' : Nat} {i : Int32} {x : Int64} {j : Nat} (hdg : decode (zx_mb t) pc = .ok (.lastore, 1)) (hp : pc + 1 = pc') (ha : a < 86) (hs : zf_sh a = .inr (.inl (1, n))) (hi : 0 ≤ i.toInt ∧ i.toInt < n) (hj : i.toInt.toNat = j) (kk : ∀ m', m' = zf_ul m a j x → zf_W sc nc ns d t pc' L r m' Q) : zf_W sc nc ns d t pc L (.inr (.inl x) :: .inl i :: .inr (.inr (1, a)) :: r) m Q := by
  subst hj
  intro L' hL
  have e := zi_in hi
  refine zw_las (f := (List.range n).map (m.2 a)) hdg hp ((zf_get ha).trans (by rw [hs]; rfl)) (by rw [zf_lr]; exact e) ?_
  rw [zf_setl ha hs]
  exact kk _ rfl L' hL
theorem zf_aal {a t0 n pc' : Nat} {l : List Nat} {i : Int32} {b : Nat} (hdg : decode (zx_mb t) pc = .ok (.aaload, 1)) (hp : pc + 1 = pc') (ha : a < 86) (hs : zf_sh a = .inr (.inr (t0, l))) (ht : t0 = 2 ∨ t0 = 3) (hn : l.length = n) (hi : 0 ≤ i.toInt ∧ i.toInt < n) (hb : ∀ j, j < n → l[j]? = some (b + 2 * j)) (kk : zf_W sc nc ns d t pc' L (.inr (.inr (1, b + 2 * i.toInt.toNat)) :: r) m Q) : zf_W sc nc ns d t pc L (.inl i :: .inr (.inr (1, a)) :: r) m Q := by
  intro L' hL
  have e := zi_in hi
  refine zw_aal (f := l.map some) (b := b + 2 * i.toInt.toNat) hdg hp ((zf_get ha).trans (by rw [hs]; rfl)) ht (by rw [List.length_map, hn]; exact e) ?_ (kk L' hL)
  rw [List.getElem?_map, hb _ e.2]
  rfl
theorem zf_div {x y : Int32} {pc' : Nat} (hdg : decode (zx_mb t) pc = .ok (.idiv, 1)) (hp : pc + 1 = pc') (hy : ¬ y = 0) (kk : zf_W sc nc ns d t pc' L (.inl (x / y) :: r) m Q) : zf_W sc nc ns d t pc L (.inl y :: .inl x :: r) m Q :=
  fun L' hL => zw_div hdg hp hy (kk L' hL)
theorem zf_rem {x y : Int32} {pc' : Nat} (hdg : decode (zx_mb t) pc = .ok (.irem, 1)) (hp : pc + 1 = pc') (hy : ¬ y = 0) (kk : zf_W sc nc ns d t pc' L (.inl (x - x / y * y) :: r) m Q) : zf_W sc nc ns d t pc L (.inl y :: .inl x :: r) m Q :=
  fun L' hL => zw_rem hdg hp hy (kk L' hL)
theorem zf_gs {ix g pc' : Nat} {np : Nat × Nat} (hdg : decode (zx_mb t) pc = .ok (.getstatic ix, 3)) (hp : pc + 3 = pc') (hk : zx_lk zx_lG (zx_mo t) ix = some (g, np)) (hg : Nat.blt g 5 = true) (kk : zf_W sc nc ns d t pc' L (.inr (.inr (4, g)) :: S) m Q) : zf_W sc nc ns d t pc L S m Q :=
  fun L' hL => zw_gs hdg hp hk (Nat.blt_eq.mp hg) (kk L' hL)
theorem zf_max {ix k pc' : Nat} {np : Nat × Nat} {x y : Int32} (hdg : decode (zx_mb t) pc = .ok (.invokestatic ix, 3)) (hp : pc + 3 = pc') (hk : zx_lk zx_lM (zx_mo t) ix = some (k, np)) (hkk : (decide (zx_mk (zx_m k) = 3) && (decide (k < 221) && decide (zx_cs r ≤ 8))) = true) (kk : zf_W sc nc ns d t pc' L (.inl (if x < y then y else x) :: r) m Q) : zf_W sc nc ns d t pc L (.inl y :: .inl x :: r) m Q :=
  fun L' hL => zw_max hdg hp hk hkk (kk L' hL)
theorem zf_min {ix k pc' : Nat} {np : Nat × Nat} {x y : Int32} (hdg : decode (zx_mb t) pc = .ok (.invokestatic ix, 3)) (hp : pc + 3 = pc') (hk : zx_lk zx_lM (zx_mo t) ix = some (k, np)) (hkk : (decide (zx_mk (zx_m k) = 4) && (decide (k < 221) && decide (zx_cs r ≤ 8))) = true) (kk : zf_W sc nc ns d t pc' L (.inl (if y < x then y else x) :: r) m Q) : zf_W sc nc ns d t pc L (.inl y :: .inl x :: r) m Q :=
  fun L' hL => zw_min hdg hp hk hkk (kk L' hL)
theorem zf_tsc {dflt lo hi : Int} {offs : Array Int} {len : Nat} {x : Int32} {tgd : Nat} (hdg : decode (zx_mb t) pc = .ok (.tableswitch dflt lo hi offs, len)) (hd : (pc : Int) + dflt = (tgd : Int)) (tgts : List Nat) (ht : offs.toList.map (fun o => (pc : Int) + o) = tgts.map (fun n : Nat => (n : Int))) (hsz : hi - lo + 1 = (offs.size : Int))
    (kd : (x.toInt < lo ∨ hi < x.toInt) → zf_W sc nc ns d t tgd L r m Q) (kin : zl_all (fun i tg => x.toInt = lo + (i : Int) → zf_W sc nc ns d t tg L r m Q) 0 tgts) : zf_W sc nc ns d t pc L (.inl x :: r) m Q :=
  fun L' hL => zw_tsc hdg hd tgts ht hsz (fun g => kd g L' hL) (fun j tg hj g => kin j tg hj g L' hL)
theorem zf_ri {v : Int32} {Q : Int32 → zf_Me → Prop} (hdg : decode (zx_mb t) pc = .ok (.ireturn, 1)) (hr : zx_mr t = some .int) (q : Q v m) : zf_W sc nc ns d t pc L [.inl v] m (zf_I Q) :=
  fun _ _ => zw_iret hdg hr rfl ⟨m, rfl, v, rfl, q⟩
theorem zf_rb {b : Bool} {Q : Bool → zf_Me → Prop} (hdg : decode (zx_mb t) pc = .ok (.ireturn, 1)) (hr : zx_mr t = some .boolean) (q : Q b m) : zf_W sc nc ns d t pc L [.inl (zb b)] m (zf_B Q) :=
  fun _ _ => zw_iret hdg hr (by cases b <;> decide) ⟨m, rfl, b, rfl, q⟩
theorem zf_rv {Q : zf_Me → Prop} (hdg : decode (zx_mb t) pc = .ok (.return_, 1)) (hr : zx_mr t = none) (q : Q m) : zf_W sc nc ns d t pc L [] m (zf_O Q) :=
  fun _ _ => zw_vret hdg hr ⟨m, rfl, rfl, q⟩
theorem zf_rl {v : Int64} {Q : Int64 → zf_Me → Prop} (hdg : decode (zx_mb t) pc = .ok (.lreturn, 1)) (hr : zx_mr t = some .long) (q : Q v m) : zf_W sc nc ns d t pc L [.inr (.inl v)] m (zf_J Q) :=
  fun _ _ => zw_lret hdg hr ⟨m, rfl, v, rfl, q⟩
theorem zf_iv {a ix k ci pc' : Nat} {np : Nat × Nat} {fs : List (Option Nat)} {as : List zx_V} {Q' : Option zx_V → zf_Me → Prop} (hdg : decode (zx_mb t) pc = .ok (.invokevirtual ix, 3)) (hp : pc + 3 = pc') (hk : zx_lk zx_lM (zx_mo t) ix = some (k, np)) (hkk : (decide (zx_mk (zx_m k) = 0) && decide (k < 221)) = true) (hd : S.drop (zx_mp (zx_m k)) = .inr (.inr (1, a)) :: r) (ha : a < 86) (hs : zf_sh a = .inl (ci, fs)) (hc : (decide (ci = zx_mo (zx_m k)) && (decide (ci < 9) && (decide (zx_cs r ≤ 8) && decide (zx_mp (zx_m k) ≤ S.length)))) = true) (has : (S.take (zx_mp (zx_m k))).reverse = as)
    (hM : zf_M d k (.inr (.inr (1, a)) :: as) m Q') (kk : ∀ v m', Q' v m' → zf_W sc nc ns (d + 1) t pc' L (v.toList ++ r) m' Q) : zf_W sc nc ns (d + 1) t pc L S m Q := by
  intro L' hL
  refine zw_iv (fs := zf_fs (m.1 a) 0 fs) hdg hp hk hkk hd ((zf_get ha).trans (by rw [hs]; rfl)) hc has ?_
  exact zx_M_cons hM (fun v h' _ ⟨m', e, q⟩ _ => by subst e; exact kk v m' q L' hL)
theorem zf_is {ix k pc' : Nat} {np : Nat × Nat} {as : List zx_V} {Q' : Option zx_V → zf_Me → Prop} (hdg : decode (zx_mb t) pc = .ok (.invokestatic ix, 3)) (hp : pc + 3 = pc') (hk : zx_lk zx_lM (zx_mo t) ix = some (k, np)) (hkk : (decide (zx_mk (zx_m k) = 1) && (decide (k < 221) && (decide (zx_cs (S.drop (zx_mp (zx_m k))) ≤ 8) && decide (zx_mp (zx_m k) ≤ S.length)))) = true) (has : (S.take (zx_mp (zx_m k))).reverse = as) (hd : S.drop (zx_mp (zx_m k)) = r)
    (hM : zf_M d k as m Q') (kk : ∀ v m', Q' v m' → zf_W sc nc ns (d + 1) t pc' L (v.toList ++ r) m' Q) : zf_W sc nc ns (d + 1) t pc L S m Q := by
  intro L' hL
  refine zw_is hdg hp hk hkk has hd ?_
  exact zx_M_cons hM (fun v h' _ ⟨m', e, q⟩ _ => by subst e; exact kk v m' q L' hL)
theorem zf_kI {pc' : Nat} {Q' : Int32 → zf_Me → Prop} (kk : ∀ x m', Q' x m' → zf_W sc nc ns d t pc' L (.inl x :: r) m' Q) : ∀ v m', zf_I Q' v m' → zf_W sc nc ns d t pc' L (v.toList ++ r) m' Q := by
  rintro v m' ⟨x, rfl, q⟩
  exact kk x m' q
theorem zf_kB {pc' : Nat} {Q' : Bool → zf_Me → Prop} (kk : ∀ b m', Q' b m' → zf_W sc nc ns d t pc' L (.inl (zb b) :: r) m' Q) : ∀ v m', zf_B Q' v m' → zf_W sc nc ns d t pc' L (v.toList ++ r) m' Q := by
  rintro v m' ⟨x, rfl, q⟩
  exact kk x m' q
theorem zf_kO {pc' : Nat} {Q' : zf_Me → Prop} (kk : ∀ m', Q' m' → zf_W sc nc ns d t pc' L r m' Q) : ∀ v m', zf_O Q' v m' → zf_W sc nc ns d t pc' L (v.toList ++ r) m' Q := by
  rintro v m' ⟨rfl, q⟩
  exact kk m' q
theorem zf_kJ {pc' : Nat} {Q' : Int64 → zf_Me → Prop} (kk : ∀ x m', Q' x m' → zf_W sc nc ns d t pc' L (.inr (.inl x) :: r) m' Q) : ∀ v m', zf_J Q' v m' → zf_W sc nc ns d t pc' L (v.toList ++ r) m' Q := by
  rintro v m' ⟨x, rfl, q⟩
  exact kk x m' q
theorem zf_kT {pc' : Nat} {Q' : Nat → zf_Me → Prop} (kk : ∀ a m', a < 12 → Q' a m' → zf_W sc nc ns d t pc' L (.inr (.inr (2, a)) :: r) m' Q) : ∀ v m', zf_T Q' v m' → zf_W sc nc ns d t pc' L (v.toList ++ r) m' Q := by
  rintro v m' ⟨x, rfl, h, q⟩
  exact kk x m' h q
theorem zf_iv2 {a ix k pc' : Nat} {np : Nat × Nat} {as : List zx_V} {Q' : Option zx_V → zf_Me → Prop} (hdg : decode (zx_mb t) pc = .ok (.invokevirtual ix, 3)) (hp : pc + 3 = pc') (hk : zx_lk zx_lM (zx_mo t) ix = some (k, np)) (hkk : (decide (zx_mk (zx_m k) = 0) && decide (k < 221)) = true) (hd : S.drop (zx_mp (zx_m k)) = .inr (.inr (2, a)) :: r) (ha : a < 12) (hc : (decide (zx_mo (zx_m k) = 11) && (decide (zx_cs r ≤ 8) && decide (zx_mp (zx_m k) ≤ S.length))) = true) (has : (S.take (zx_mp (zx_m k))).reverse = as)
    (hM : zf_M d k (.inr (.inr (2, a)) :: as) m Q') (kk : ∀ v m', Q' v m' → zf_W sc nc ns (d + 1) t pc' L (v.toList ++ r) m' Q) : zf_W sc nc ns (d + 1) t pc L S m Q := by
  intro L' hL
  subst hp has
  simp only [Bool.and_eq_true, decide_eq_true_eq] at hkk hc
  refine zx_W_call (k := k) (as := .inr (.inr (2, a)) :: (S.take (zx_mp (zx_m k))).reverse) (r := r) hdg rfl (fun run => ?_) (zx_M_cons hM (fun v h' _ ⟨m', e, q⟩ _ => by subst e; exact kk v m' q L' hL))
  show zx_iv run (zx_mo t) ix pc L' S _ nc ns = _
  unfold zx_iv
  simp only [hk]
  rw [if_pos hkk]
  simp only [hd]
  rw [if_pos ⟨ha, hc⟩]
theorem zf_rt {a : Nat} {Q : Nat → zf_Me → Prop} (hdg : decode (zx_mb t) pc = .ok (.areturn, 1)) {cn : String} (hr : zx_mr t = some (.object cn)) (ha : a < 12) (q : Q a m) : zf_W sc nc ns d t pc L [.inr (.inr (2, a))] m (zf_T Q) := by
  intro L' hL
  refine zx_W_end (v := some (.inr (.inr (2, a)))) hdg rfl (fun run => ?_) ⟨m, rfl, a, rfl, ha, q⟩
  show zx_ar (zx_mr t) _ _ nc ns = _
  unfold zx_ar
  rw [hr]
  rfl
theorem zf_ac {ix pc' : Nat} {a b z k : Nat} {n dp sp : Int32} (hdg : decode (zx_mb t) pc = .ok (.invokestatic ix, 3)) (hp : pc + 3 = pc') (hk : zx_lk zx_lM (zx_mo t) ix = none) {q0 : Nat} (hk2 : zx_lk zx_lA (zx_mo t) ix = some q0) (ha : a < 86) (hb : b < 86) (hsa : zf_sh a = .inr (.inl (0, z))) (hsb : zf_sh b = .inr (.inl (0, k))) (hr : Nat.ble (zx_cs r) 8 = true) (hi : 0 ≤ sp.toInt ∧ 0 ≤ dp.toInt ∧ 0 ≤ n.toInt ∧ sp.toInt + n.toInt ≤ z ∧ dp.toInt + n.toInt ≤ k) (kk : ∀ m', m' = zf_cp m a b sp.toInt.toNat dp.toInt.toNat n.toInt.toNat → zf_W sc nc ns d t pc' L r m' Q) : zf_W sc nc ns d t pc L (.inl n :: .inl dp :: .inr (.inr (1, b)) :: .inl sp :: .inr (.inr (1, a)) :: r) m Q := by
  subst hp
  intro L' hL
  have e0 : (0 : Int32).toInt = 0 := rfl
  have h1 : ¬ sp < 0 := fun q => by have := zi_lt.mp q; omega
  have h2 : ¬ dp < 0 := fun q => by have := zi_lt.mp q; omega
  have h3 : ¬ n < 0 := fun q => by have := zi_lt.mp q; omega
  have ga := (zf_get (m := m) ha).trans (by rw [hsa]; rfl : _ = some (Sum.inr (0, Sum.inl ((List.range z).map (m.1 a)))))
  have gb := (zf_get (m := m) hb).trans (by rw [hsb]; rfl : _ = some (Sum.inr (0, Sum.inl ((List.range k).map (m.1 b)))))
  have l1 : sp.toInt.toNat + n.toInt.toNat ≤ z := by omega
  have l2 : dp.toInt.toNat + n.toInt.toNat ≤ k := by omega
  refine zx_W_ins (pc' := pc + 3) (L' := L') (S' := r) (h' := zf_E (zf_cp m a b sp.toInt.toNat dp.toInt.toNat n.toInt.toNat)) hdg rfl (fun run => ?_) (by rw [zf_len, zf_len]) (kk _ rfl L' hL)
  show zx_is run (zx_mo t) ix pc L' _ _ nc ns = _
  unfold zx_is
  simp only [hk, hk2]
  unfold zx_ac
  simp only
  rw [if_pos ⟨Nat.ble_eq.mp hr, h1, h2, h3⟩, ga, gb]
  simp only
  rw [if_pos (by rw [zf_lr, zf_lr]; exact ⟨l1, l2⟩)]
  show zx_N _ _ _ ((zf_E m).set b (.inr (0, .inl (zx_cpy _ _ sp.toInt.toNat dp.toInt.toNat n.toInt.toNat)))) _ _ = _
  rw [zf_cpi hb hsb l1 l2]
  rfl
theorem zf_acl {ix pc' : Nat} {a b z k : Nat} {n dp sp : Int32} (hdg : decode (zx_mb t) pc = .ok (.invokestatic ix, 3)) (hp : pc + 3 = pc') (hk : zx_lk zx_lM (zx_mo t) ix = none) {q0 : Nat} (hk2 : zx_lk zx_lA (zx_mo t) ix = some q0) (ha : a < 86) (hb : b < 86) (hsa : zf_sh a = .inr (.inl (1, z))) (hsb : zf_sh b = .inr (.inl (1, k))) (hr : Nat.ble (zx_cs r) 8 = true) (hi : 0 ≤ sp.toInt ∧ 0 ≤ dp.toInt ∧ 0 ≤ n.toInt ∧ sp.toInt + n.toInt ≤ z ∧ dp.toInt + n.toInt ≤ k) (kk : ∀ m', m' = zf_cpl m a b sp.toInt.toNat dp.toInt.toNat n.toInt.toNat → zf_W sc nc ns d t pc' L r m' Q) : zf_W sc nc ns d t pc L (.inl n :: .inl dp :: .inr (.inr (1, b)) :: .inl sp :: .inr (.inr (1, a)) :: r) m Q := by
  subst hp
  intro L' hL
  have e0 : (0 : Int32).toInt = 0 := rfl
  have h1 : ¬ sp < 0 := fun q => by have := zi_lt.mp q; omega
  have h2 : ¬ dp < 0 := fun q => by have := zi_lt.mp q; omega
  have h3 : ¬ n < 0 := fun q => by have := zi_lt.mp q; omega
  have ga := (zf_get (m := m) ha).trans (by rw [hsa]; rfl : _ = some (Sum.inr (1, Sum.inr (Sum.inl ((List.range z).map (m.2 a))))))
  have gb := (zf_get (m := m) hb).trans (by rw [hsb]; rfl : _ = some (Sum.inr (1, Sum.inr (Sum.inl ((List.range k).map (m.2 b))))))
  have l1 : sp.toInt.toNat + n.toInt.toNat ≤ z := by omega
  have l2 : dp.toInt.toNat + n.toInt.toNat ≤ k := by omega
  refine zx_W_ins (pc' := pc + 3) (L' := L') (S' := r) (h' := zf_E (zf_cpl m a b sp.toInt.toNat dp.toInt.toNat n.toInt.toNat)) hdg rfl (fun run => ?_) (by rw [zf_len, zf_len]) (kk _ rfl L' hL)
  show zx_is run (zx_mo t) ix pc L' _ _ nc ns = _
  unfold zx_is
  simp only [hk, hk2]
  unfold zx_ac
  simp only
  rw [if_pos ⟨Nat.ble_eq.mp hr, h1, h2, h3⟩, ga, gb]
  simp only
  rw [if_pos (by rw [zf_lr, zf_lr]; exact ⟨l1, l2⟩)]
  show zx_N _ _ _ ((zf_E m).set b (.inr (1, .inr (.inl (zx_cpy _ _ sp.toInt.toNat dp.toInt.toNat n.toInt.toNat))))) _ _ = _
  rw [zf_cpj hb hsb l1 l2]
  rfl
theorem zf_ar {a t0 n pc' : Nat} {l : List Nat} {v : Int32} (hdg : decode (zx_mb t) pc = .ok (.arraylength, 1)) (hp : pc + 1 = pc') (ha : a < 86) (hs : zf_sh a = .inr (.inr (t0, l))) (ht : t0 < 4) (hv : Int32.ofNat l.length = v) (kk : zf_W sc nc ns d t pc' L (.inl v :: r) m Q) : zf_W sc nc ns d t pc L (.inr (.inr (1, a)) :: r) m Q := by
  subst hp hv
  intro L' hL
  refine zx_W_ins hdg rfl (fun run => ?_) rfl (kk L' hL)
  show zx_al sc pc L' (.inr (.inr (1, a)) :: r) (zf_E m) nc ns = _
  unfold zx_al
  simp only [(zf_get (m := m) ha).trans (by rw [hs]; rfl : _ = some (Sum.inr (t0, Sum.inr (Sum.inr (l.map some)))))]
  rw [if_pos ht]
  show zx_N _ _ (.inl (Int32.ofNat (l.map some).length) :: r) _ _ _ = _
  rw [List.length_map]
  rfl
theorem zf_lsw {dflt : Int} {ps : Array (Int × Int)} {len : Nat} {x : Int32} {tg : Nat} (hdg : decode (zx_mb t) pc = .ok (.lookupswitch dflt ps, len)) (hs : (ps.toList.zip (ps.toList.drop 1)).all (fun (a, next) => a.1 < next.1) = true) {o : Int} (ho : Op.lookupswitch.offset ps.toList dflt x.toInt = o) (ht : (pc : Int) + o = (tg : Int)) (kk : zf_W sc nc ns d t tg L r m Q) : zf_W sc nc ns d t pc L (.inl x :: r) m Q := by
  subst ho
  intro L' hL
  refine zx_W_ins hdg rfl (fun run => ?_) rfl (kk L' hL)
  show zx_lsw dflt ps pc L' (.inl x :: r) (zf_E m) nc ns = _
  unfold zx_lsw
  simp only
  rw [if_pos hs]
  unfold zx_J
  rw [if_pos (by omega), show ((pc : Int) + Op.lookupswitch.offset ps.toList dflt x.toInt).toNat = tg by omega]
  rfl
theorem zf_ldc {ix n pc' : Nat} {v : Int32} {np : Nat} {ins : Instr} (hdg : decode (zx_mb t) pc = .ok (ins, n)) (hlen : zx_lok ins n = true) (h1 : ∀ run L' h, zx_ins sc run t ins pc L' S h nc ns = zx_lc (zx_mo t) ix n pc L' S h nc ns) (hp : pc + n = pc') (hk : zx_lk zx_lI (zx_mo t) ix = some (v, np)) (kk : zf_W sc nc ns d t pc' L (.inl v :: S) m Q) : zf_W sc nc ns d t pc L S m Q := by
  subst hp
  intro L' hL
  refine zx_W_ins hdg hlen (fun run => (h1 run L' _).trans ?_) rfl (kk L' hL)
  unfold zx_lc
  simp only [hk]
  rfl
theorem zf_lds {ix i pc' : Nat} (hdg : decode (zx_mb t) pc = .ok (.ldc ix, 2)) (hp : pc + 2 = pc') (hk : zx_lk zx_lI (zx_mo t) ix = none) (hk2 : zx_lk zx_lS (zx_mo t) ix = some i) (ho : zx_mo t = 4) (hi : i < 12) (kk : zf_W sc nc ns d t pc' L (.inr (.inr (2, i)) :: S) m Q) : zf_W sc nc ns d t pc L S m Q := by
  subst hp
  intro L' hL
  refine zx_W_ins hdg rfl (fun run => ?_) rfl (kk L' hL)
  show zx_lc (zx_mo t) ix 2 pc L' S _ nc ns = _
  unfold zx_lc
  simp only [hk, hk2]
  rw [if_pos trivial, if_pos ⟨ho, hi⟩]
  rfl
end
def zf_arr (a n : Nat) : Prop := a < 86 ∧ zf_sh a = .inr (.inl (0, n))
def zf_larr (a n : Nat) : Prop := a < 86 ∧ zf_sh a = .inr (.inl (1, n))
def zf_way (y : Nat) : Prop := y < 86 ∧ zf_sh y = .inl (6, [some (y + 1), some (y + 2), some (y + 3), some (y + 4), none, none]) ∧ zf_arr (y + 1) 24 ∧ zf_arr (y + 2) 24 ∧ zf_arr (y + 3) 6 ∧ zf_arr (y + 4) 6
def zf_walk (w y r : Nat) : Prop := w < 86 ∧ zf_sh w = .inl (5, [some y, some r, none, none, none, none, none, none, none, none, none, none, none]) ∧ zf_way y ∧ zf_arr r 6
def zf_shelf (c r : Nat) : Prop := c < 86 ∧ zf_sh c = .inl (3, [some r, none, none]) ∧ zf_larr r 160
theorem zf_way3 : zf_way 3 := ⟨by decide, rfl, ⟨by decide, rfl⟩, ⟨by decide, rfl⟩, ⟨by decide, rfl⟩, ⟨by decide, rfl⟩⟩
theorem zf_way10 : zf_way 10 := ⟨by decide, rfl, ⟨by decide, rfl⟩, ⟨by decide, rfl⟩, ⟨by decide, rfl⟩, ⟨by decide, rfl⟩⟩
theorem zf_way37 : zf_way 37 := ⟨by decide, rfl, ⟨by decide, rfl⟩, ⟨by decide, rfl⟩, ⟨by decide, rfl⟩, ⟨by decide, rfl⟩⟩
theorem zf_walk2 : zf_walk 2 3 8 := ⟨by decide, rfl, zf_way3, by decide, rfl⟩
theorem zf_walk9 : zf_walk 9 10 15 := ⟨by decide, rfl, zf_way10, by decide, rfl⟩
theorem zf_walk16 : zf_walk 16 3 17 := ⟨by decide, rfl, zf_way3, by decide, rfl⟩
theorem zf_walk19 : zf_walk 19 3 20 := ⟨by decide, rfl, zf_way3, by decide, rfl⟩
theorem zf_walk36 : zf_walk 36 37 42 := ⟨by decide, rfl, zf_way37, by decide, rfl⟩
theorem zf_walks {j : Nat} (h : j < 5) : zf_walk (25 + 2 * j) 3 (26 + 2 * j) := by
  match j, h with
  | 0, _ => exact ⟨by decide, rfl, zf_way3, by decide, rfl⟩
  | 1, _ => exact ⟨by decide, rfl, zf_way3, by decide, rfl⟩
  | 2, _ => exact ⟨by decide, rfl, zf_way3, by decide, rfl⟩
  | 3, _ => exact ⟨by decide, rfl, zf_way3, by decide, rfl⟩
  | 4, _ => exact ⟨by decide, rfl, zf_way3, by decide, rfl⟩
theorem zf_shelves {j : Nat} (h : j < 8) : zf_shelf (47 + 2 * j) (48 + 2 * j) := by
  match j, h with
  | 0, _ => exact ⟨by decide, rfl, by decide, rfl⟩
  | 1, _ => exact ⟨by decide, rfl, by decide, rfl⟩
  | 2, _ => exact ⟨by decide, rfl, by decide, rfl⟩
  | 3, _ => exact ⟨by decide, rfl, by decide, rfl⟩
  | 4, _ => exact ⟨by decide, rfl, by decide, rfl⟩
  | 5, _ => exact ⟨by decide, rfl, by decide, rfl⟩
  | 6, _ => exact ⟨by decide, rfl, by decide, rfl⟩
  | 7, _ => exact ⟨by decide, rfl, by decide, rfl⟩
theorem zf_row1 : ∀ j, j < 8 → [47, 49, 51, 53, 55, 57, 59, 61][j]? = some (47 + 2 * j) := by decide
theorem zf_row22 : ∀ j, j < 5 → [25, 27, 29, 31, 33][j]? = some (25 + 2 * j) := by decide
end
section
/-! part 23: strings: their length, their letters: laid by wip/flat/strs.py -/
section
variable {sc : zx_Sc} {d nc ns : Nat} {t : zx_MT} {pc : Nat} {L L2 : List (Option zx_V)} {S S' r : List zx_V} {m : zf_Me} {Q : Option zx_V → zf_Me → Prop}
theorem zf_gfv {a ix pc' : Nat} {np : Nat} (hdg : decode (zx_mb t) pc = .ok (.getfield ix, 3)) (hp : pc + 3 = pc') (hk : zx_lk zx_lK (zx_mo t) ix = some (0, np)) (ha : a < 12) (kk : zf_W sc nc ns d t pc' L (.inr (.inr (3, a)) :: r) m Q) : zf_W sc nc ns d t pc L (.inr (.inr (2, a)) :: r) m Q := by
  subst hp
  intro L' hL
  refine zx_W_ins hdg rfl (fun run => ?_) rfl (kk L' hL)
  show zx_gf (zx_mo t) ix pc L' (.inr (.inr (2, a)) :: r) (zf_E m) nc ns = _
  unfold zx_gf
  simp only [hk]
  rw [if_pos ha]
  rfl
theorem zf_gfc {a ix pc' : Nat} {np : Nat} (hdg : decode (zx_mb t) pc = .ok (.getfield ix, 3)) (hp : pc + 3 = pc') (hk : zx_lk zx_lK (zx_mo t) ix = some (1, np)) (ha : a < 12) (kk : zf_W sc nc ns d t pc' L (.inl 0 :: r) m Q) : zf_W sc nc ns d t pc L (.inr (.inr (2, a)) :: r) m Q := by
  subst hp
  intro L' hL
  refine zx_W_ins hdg rfl (fun run => ?_) rfl (kk L' hL)
  show zx_gf (zx_mo t) ix pc L' (.inr (.inr (2, a)) :: r) (zf_E m) nc ns = _
  unfold zx_gf
  simp only [hk]
  rw [if_pos ha]
  rfl
theorem zf_als {a pc' : Nat} (hdg : decode (zx_mb t) pc = .ok (.arraylength, 1)) (hp : pc + 1 = pc') (ha : a < 12) (kk : zf_W sc nc ns d t pc' L (.inl (Int32.ofNat (zx_sl.getD a 0)) :: r) m Q) : zf_W sc nc ns d t pc L (.inr (.inr (3, a)) :: r) m Q := by
  subst hp
  intro L' hL
  refine zx_W_ins hdg rfl (fun run => ?_) rfl (kk L' hL)
  show zx_al sc pc L' (.inr (.inr (3, a)) :: r) (zf_E m) nc ns = _
  unfold zx_al
  simp only
  rw [if_pos ha]
  rfl
theorem zf_bal {a pc' : Nat} {i : Int32} (hdg : decode (zx_mb t) pc = .ok (.baload, 1)) (hp : pc + 1 = pc') (ha : a < 12) (hi : 0 ≤ i.toInt ∧ i.toInt < (zx_sl.getD a 0 : Nat)) (kk : zf_W sc nc ns d t pc' L (.inl ((zx_sb.getD a []).getD i.toInt.toNat 0) :: r) m Q) : zf_W sc nc ns d t pc L (.inl i :: .inr (.inr (3, a)) :: r) m Q := by
  subst hp
  intro L' hL
  refine zx_W_ins hdg rfl (fun run => ?_) rfl (kk L' hL)
  show zx_bal pc L' (.inl i :: .inr (.inr (3, a)) :: r) (zf_E m) nc ns = _
  unfold zx_bal
  simp only
  rw [if_pos ⟨ha, zi_in hi⟩]
  rfl
theorem zf_gsb {ix pc' : Nat} {np : Nat × Nat} (hdg : decode (zx_mb t) pc = .ok (.getstatic ix, 3)) (hp : pc + 3 = pc') (hk : zx_lk zx_lG (zx_mo t) ix = some (5, np)) (kk : zf_W sc nc ns d t pc' L (.inl 1 :: S) m Q) : zf_W sc nc ns d t pc L S m Q := by
  subst hp
  intro L' hL
  refine zx_W_ins hdg rfl (fun run => ?_) rfl (kk L' hL)
  show zx_gs (zx_mo t) ix pc L' S (zf_E m) nc ns = _
  unfold zx_gs
  simp only [hk]
  rfl
theorem zf_gsf {ix pc' : Nat} {np : Nat × Nat} (hdg : decode (zx_mb t) pc = .ok (.getstatic ix, 3)) (hp : pc + 3 = pc') (hk : zx_lk zx_lG (zx_mo t) ix = some (6, np)) (kk : zf_W sc nc ns d t pc' L (.inr (.inr (6, 0)) :: S) m Q) : zf_W sc nc ns d t pc L S m Q := by
  subst hp
  intro L' hL
  refine zx_W_ins hdg rfl (fun run => ?_) rfl (kk L' hL)
  show zx_gs (zx_mo t) ix pc L' S (zf_E m) nc ns = _
  unfold zx_gs
  simp only [hk]
  rfl
theorem zf_rx {v : Int32} {ty : FieldType} {Q : Int32 → zf_Me → Prop} (hdg : decode (zx_mb t) pc = .ok (.ireturn, 1)) (hr : zx_mr t = some ty) (hn : zx_nr ty v = true) (q : Q v m) : zf_W sc nc ns d t pc L [.inl v] m (zf_I Q) :=
  fun _ _ => zw_iret hdg hr hn ⟨m, rfl, v, rfl, q⟩
end
def zt_216 : zx_MT := (11, yJ0_coder_7d493, cJ0_coder_7d493, 1, (some FieldType.byte), 0, 0)
theorem zm_216 : zx_m 216 = zt_216 := rfl
theorem dJ0_coder_7d493_0 : decode cJ0_coder_7d493 0 = .ok (.getstatic 38, 3) := by decide +kernel
theorem dJ0_coder_7d493_3 : decode cJ0_coder_7d493 3 = .ok (.ifCond .eq 10, 3) := by decide +kernel
theorem dJ0_coder_7d493_6 : decode cJ0_coder_7d493 6 = .ok (.aload_n 0, 1) := by decide +kernel
theorem dJ0_coder_7d493_7 : decode cJ0_coder_7d493 7 = .ok (.getfield 15, 3) := by decide +kernel
theorem dJ0_coder_7d493_10 : decode cJ0_coder_7d493 10 = .ok (.goto 4, 3) := by decide +kernel
theorem dJ0_coder_7d493_14 : decode cJ0_coder_7d493 14 = .ok (.ireturn, 1) := by decide +kernel
def zt_217 : zx_MT := (11, yJ0_isLatin1_aae02, cJ0_isLatin1_aae02, 1, (some FieldType.boolean), 0, 0)
theorem zm_217 : zx_m 217 = zt_217 := rfl
theorem dJ0_isLatin1_aae02_0 : decode cJ0_isLatin1_aae02 0 = .ok (.getstatic 38, 3) := by decide +kernel
theorem dJ0_isLatin1_aae02_3 : decode cJ0_isLatin1_aae02 3 = .ok (.ifCond .eq 14, 3) := by decide +kernel
theorem dJ0_isLatin1_aae02_6 : decode cJ0_isLatin1_aae02 6 = .ok (.aload_n 0, 1) := by decide +kernel
theorem dJ0_isLatin1_aae02_7 : decode cJ0_isLatin1_aae02 7 = .ok (.getfield 15, 3) := by decide +kernel
theorem dJ0_isLatin1_aae02_10 : decode cJ0_isLatin1_aae02 10 = .ok (.ifCond .ne 7, 3) := by decide +kernel
theorem dJ0_isLatin1_aae02_13 : decode cJ0_isLatin1_aae02 13 = .ok (.iconst 1, 1) := by decide +kernel
theorem dJ0_isLatin1_aae02_14 : decode cJ0_isLatin1_aae02 14 = .ok (.goto 4, 3) := by decide +kernel
theorem dJ0_isLatin1_aae02_18 : decode cJ0_isLatin1_aae02 18 = .ok (.ireturn, 1) := by decide +kernel
def zt_220 : zx_MT := (13, yJ3_checkIndex_8e157, cJ3_checkIndex_8e157, 3, (some FieldType.int), 3, 1)
theorem zm_220 : zx_m 220 = zt_220 := rfl
theorem dJ3_checkIndex_8e157_0 : decode cJ3_checkIndex_8e157 0 = .ok (.iload_n 0, 1) := by decide +kernel
theorem dJ3_checkIndex_8e157_1 : decode cJ3_checkIndex_8e157 1 = .ok (.ifCond .lt 8, 3) := by decide +kernel
theorem dJ3_checkIndex_8e157_4 : decode cJ3_checkIndex_8e157 4 = .ok (.iload_n 0, 1) := by decide +kernel
theorem dJ3_checkIndex_8e157_5 : decode cJ3_checkIndex_8e157 5 = .ok (.iload_n 1, 1) := by decide +kernel
theorem dJ3_checkIndex_8e157_6 : decode cJ3_checkIndex_8e157 6 = .ok (.if_icmp .lt 10, 3) := by decide +kernel
theorem dJ3_checkIndex_8e157_16 : decode cJ3_checkIndex_8e157 16 = .ok (.iload_n 0, 1) := by decide +kernel
theorem dJ3_checkIndex_8e157_17 : decode cJ3_checkIndex_8e157 17 = .ok (.ireturn, 1) := by decide +kernel
def zt_218 : zx_MT := (11, yJ0_checkIndex_df160, cJ0_checkIndex_df160, 2, none, 2, 1)
theorem zm_218 : zx_m 218 = zt_218 := rfl
theorem dJ0_checkIndex_df160_0 : decode cJ0_checkIndex_df160 0 = .ok (.iload_n 0, 1) := by decide +kernel
theorem dJ0_checkIndex_df160_1 : decode cJ0_checkIndex_df160 1 = .ok (.iload_n 1, 1) := by decide +kernel
theorem dJ0_checkIndex_df160_2 : decode cJ0_checkIndex_df160 2 = .ok (.getstatic 1053, 3) := by decide +kernel
theorem dJ0_checkIndex_df160_5 : decode cJ0_checkIndex_df160 5 = .ok (.invokestatic 1059, 3) := by decide +kernel
theorem dJ0_checkIndex_df160_8 : decode cJ0_checkIndex_df160 8 = .ok (.pop, 1) := by decide +kernel
theorem dJ0_checkIndex_df160_9 : decode cJ0_checkIndex_df160 9 = .ok (.return_, 1) := by decide +kernel
def zt_219 : zx_MT := (12, yJ1_charAt_3b067, cJ1_charAt_3b067, 2, (some FieldType.char), 2, 1)
theorem zm_219 : zx_m 219 = zt_219 := rfl
theorem dJ1_charAt_3b067_0 : decode cJ1_charAt_3b067 0 = .ok (.iload_n 1, 1) := by decide +kernel
theorem dJ1_charAt_3b067_1 : decode cJ1_charAt_3b067 1 = .ok (.aload_n 0, 1) := by decide +kernel
theorem dJ1_charAt_3b067_2 : decode cJ1_charAt_3b067 2 = .ok (.arraylength, 1) := by decide +kernel
theorem dJ1_charAt_3b067_3 : decode cJ1_charAt_3b067 3 = .ok (.invokestatic 9, 3) := by decide +kernel
theorem dJ1_charAt_3b067_6 : decode cJ1_charAt_3b067 6 = .ok (.aload_n 0, 1) := by decide +kernel
theorem dJ1_charAt_3b067_7 : decode cJ1_charAt_3b067 7 = .ok (.iload_n 1, 1) := by decide +kernel
theorem dJ1_charAt_3b067_8 : decode cJ1_charAt_3b067 8 = .ok (.baload, 1) := by decide +kernel
theorem dJ1_charAt_3b067_9 : decode cJ1_charAt_3b067 9 = .ok (.sipush 255, 3) := by decide +kernel
theorem dJ1_charAt_3b067_12 : decode cJ1_charAt_3b067 12 = .ok (.iand, 1) := by decide +kernel
theorem dJ1_charAt_3b067_13 : decode cJ1_charAt_3b067 13 = .ok (.i2c, 1) := by decide +kernel
theorem dJ1_charAt_3b067_14 : decode cJ1_charAt_3b067 14 = .ok (.ireturn, 1) := by decide +kernel
def zt_214 : zx_MT := (11, yJ0_length_8abf5, cJ0_length_8abf5, 1, (some FieldType.int), 0, 0)
theorem zm_214 : zx_m 214 = zt_214 := rfl
theorem dJ0_length_8abf5_0 : decode cJ0_length_8abf5 0 = .ok (.aload_n 0, 1) := by decide +kernel
theorem dJ0_length_8abf5_1 : decode cJ0_length_8abf5 1 = .ok (.getfield 9, 3) := by decide +kernel
theorem dJ0_length_8abf5_4 : decode cJ0_length_8abf5 4 = .ok (.arraylength, 1) := by decide +kernel
theorem dJ0_length_8abf5_5 : decode cJ0_length_8abf5 5 = .ok (.aload_n 0, 1) := by decide +kernel
theorem dJ0_length_8abf5_6 : decode cJ0_length_8abf5 6 = .ok (.invokevirtual 335, 3) := by decide +kernel
theorem dJ0_length_8abf5_9 : decode cJ0_length_8abf5 9 = .ok (.ishr, 1) := by decide +kernel
theorem dJ0_length_8abf5_10 : decode cJ0_length_8abf5 10 = .ok (.ireturn, 1) := by decide +kernel
def zt_215 : zx_MT := (11, yJ0_charAt_5068e, cJ0_charAt_5068e, 2, (some FieldType.char), 1, 0)
theorem zm_215 : zx_m 215 = zt_215 := rfl
theorem dJ0_charAt_5068e_0 : decode cJ0_charAt_5068e 0 = .ok (.aload_n 0, 1) := by decide +kernel
theorem dJ0_charAt_5068e_1 : decode cJ0_charAt_5068e 1 = .ok (.invokevirtual 492, 3) := by decide +kernel
theorem dJ0_charAt_5068e_4 : decode cJ0_charAt_5068e 4 = .ok (.ifCond .eq 12, 3) := by decide +kernel
theorem dJ0_charAt_5068e_7 : decode cJ0_charAt_5068e 7 = .ok (.aload_n 0, 1) := by decide +kernel
theorem dJ0_charAt_5068e_8 : decode cJ0_charAt_5068e 8 = .ok (.getfield 9, 3) := by decide +kernel
theorem dJ0_charAt_5068e_11 : decode cJ0_charAt_5068e 11 = .ok (.iload_n 1, 1) := by decide +kernel
theorem dJ0_charAt_5068e_12 : decode cJ0_charAt_5068e 12 = .ok (.invokestatic 495, 3) := by decide +kernel
theorem dJ0_charAt_5068e_15 : decode cJ0_charAt_5068e 15 = .ok (.ireturn, 1) := by decide +kernel
theorem zr_216 {d t0 : Nat} (hp0 : t0 < 12) {m : zf_Me} {Q : Int32 → zf_Me → Prop} (h : Q 0 m) : zf_M d 216 [.inr (.inr (2, t0))] m (zf_I Q) := by
  refine zf_M_of (Nat.le_of_ble_eq_true rfl) zm_216 (L := [some (.inr (.inr (2, t0)))]) rfl ?_
  refine zf_gsb (pc' := 3) dJ0_coder_7d493_0 rfl rfl ?_
  refine zf_if_eq (tgt := 13) (pc' := 6) dJ0_coder_7d493_3 rfl rfl (fun g => absurd g (by decide)) (fun _ => ?_)
  refine zf_ld (pc' := 7) (v := .inr (.inr (2, t0))) dJ0_coder_7d493_6 rfl (fun _ _ _ => rfl) rfl rfl rfl ?_
  refine zf_gfc (pc' := 10) dJ0_coder_7d493_7 rfl rfl hp0 ?_
  refine zf_goto (tgt := 14) dJ0_coder_7d493_10 rfl ?_
  exact zf_rx dJ0_coder_7d493_14 rfl rfl h
theorem zr_217 {d t0 : Nat} (hp0 : t0 < 12) {m : zf_Me} {Q : Bool → zf_Me → Prop} (h : Q true m) : zf_M d 217 [.inr (.inr (2, t0))] m (zf_B Q) := by
  refine zf_M_of (Nat.le_of_ble_eq_true rfl) zm_217 (L := [some (.inr (.inr (2, t0)))]) rfl ?_
  refine zf_gsb (pc' := 3) dJ0_isLatin1_aae02_0 rfl rfl ?_
  refine zf_if_eq (tgt := 17) (pc' := 6) dJ0_isLatin1_aae02_3 rfl rfl (fun g => absurd g (by decide)) (fun _ => ?_)
  refine zf_ld (pc' := 7) (v := .inr (.inr (2, t0))) dJ0_isLatin1_aae02_6 rfl (fun _ _ _ => rfl) rfl rfl rfl ?_
  refine zf_gfc (pc' := 10) dJ0_isLatin1_aae02_7 rfl rfl hp0 ?_
  refine zf_if_ne (tgt := 17) (pc' := 13) dJ0_isLatin1_aae02_10 rfl rfl (fun g => absurd g (by decide)) (fun _ => ?_)
  refine zf_ic (v := 1) (pc' := 14) dJ0_isLatin1_aae02_13 rfl rfl ?_
  refine zf_goto (tgt := 18) dJ0_isLatin1_aae02_14 rfl ?_
  exact zf_rb (b := true) dJ0_isLatin1_aae02_18 rfl h
theorem zr_220 {d : Nat} {i n : Int32} {m : zf_Me} {Q : Int32 → zf_Me → Prop} (hi : 0 ≤ i.toInt ∧ i.toInt < n.toInt) (h : Q i m) : zf_M d 220 [.inl i, .inl n, .inr (.inr (6, 0))] m (zf_I Q) := by
  refine zf_M_of (Nat.le_of_ble_eq_true rfl) zm_220 (L := [some (.inl i), some (.inl n), some (.inr (.inr (6, 0)))]) rfl ?_
  refine zf_ld (pc' := 1) (v := .inl i) dJ3_checkIndex_8e157_0 rfl (fun _ _ _ => rfl) rfl rfl rfl ?_
  refine zf_if_lt (tgt := 9) (pc' := 4) dJ3_checkIndex_8e157_1 rfl rfl (fun g => absurd g (by omega)) (fun _ => ?_)
  refine zf_ld (pc' := 5) (v := .inl i) dJ3_checkIndex_8e157_4 rfl (fun _ _ _ => rfl) rfl rfl rfl ?_
  refine zf_ld (pc' := 6) (v := .inl n) dJ3_checkIndex_8e157_5 rfl (fun _ _ _ => rfl) rfl rfl rfl ?_
  refine zf_icmp_lt (tgt := 16) (pc' := 9) dJ3_checkIndex_8e157_6 rfl rfl (fun _ => ?_) (fun g => absurd g (by omega))
  refine zf_ld (pc' := 17) (v := .inl i) dJ3_checkIndex_8e157_16 rfl (fun _ _ _ => rfl) rfl rfl rfl ?_
  exact zf_ri dJ3_checkIndex_8e157_17 rfl h
theorem zr_218 {d : Nat} (hd : 1 ≤ d) {i n : Int32} {m : zf_Me} {Q : zf_Me → Prop} (hi : 0 ≤ i.toInt ∧ i.toInt < n.toInt) (h : Q m) : zf_M d 218 [.inl i, .inl n] m (zf_O Q) := by
  obtain ⟨e, rfl⟩ : ∃ z, d = z + 1 := ⟨d - 1, by omega⟩
  refine zf_M_of (Nat.le_of_ble_eq_true rfl) zm_218 (L := [some (.inl i), some (.inl n)]) rfl ?_
  refine zf_ld (pc' := 1) (v := .inl i) dJ0_checkIndex_df160_0 rfl (fun _ _ _ => rfl) rfl rfl rfl ?_
  refine zf_ld (pc' := 2) (v := .inl n) dJ0_checkIndex_df160_1 rfl (fun _ _ _ => rfl) rfl rfl rfl ?_
  refine zf_gsf (pc' := 5) dJ0_checkIndex_df160_2 rfl rfl ?_
  refine zf_is (k := 220) (pc' := 8) (r := []) dJ0_checkIndex_df160_5 rfl rfl rfl rfl rfl (zr_220 (Q := fun _ m' => Q m') hi h) (zf_kI (fun x m2 h => ?_))
  refine zf_in (pc' := 9) (S' := []) dJ0_checkIndex_df160_8 rfl (fun _ _ _ => rfl) ?_
  exact zf_rv dJ0_checkIndex_df160_9 rfl h
def zk_let (a j : Nat) : Int32 := (UInt32.toInt32 (Int32.toUInt32 ((zx_sb.getD a []).getD j 0 &&& 255) % 65536))
theorem zk_let_ok : ∀ a, a < 12 → ∀ j, j < zx_sl.getD a 0 → zk_let a j = (zx_sb.getD a []).getD j 0 ∧ zx_nr .char (zk_let a j) = true := by decide +kernel
theorem zk_len : ∀ a, a < 12 → (Int32.ofNat (zx_sl.getD a 0)).toInt = zx_sl.getD a 0 ∧ Int32.ofNat (zx_sl.getD a 0) >>> ((0 : Int32) &&& 31) = Int32.ofNat (zx_sl.getD a 0) := by decide +kernel
theorem zr_219 {d t0 : Nat} (hd : 2 ≤ d) (hp0 : t0 < 12) {i : Int32} {m : zf_Me} {Q : Int32 → zf_Me → Prop} (hi : 0 ≤ i.toInt ∧ i.toInt < (zx_sl.getD t0 0 : Nat)) (h : Q ((zx_sb.getD t0 []).getD i.toInt.toNat 0) m) : zf_M d 219 [.inr (.inr (3, t0)), .inl i] m (zf_I Q) := by
  obtain ⟨e, rfl⟩ : ∃ z, d = z + 1 := ⟨d - 1, by omega⟩
  have hl := zk_let_ok t0 hp0 i.toInt.toNat (by omega)
  refine zf_M_of (Nat.le_of_ble_eq_true rfl) zm_219 (L := [some (.inr (.inr (3, t0))), some (.inl i)]) rfl ?_
  refine zf_ld (pc' := 1) (v := .inl i) dJ1_charAt_3b067_0 rfl (fun _ _ _ => rfl) rfl rfl rfl ?_
  refine zf_ld (pc' := 2) (v := .inr (.inr (3, t0))) dJ1_charAt_3b067_1 rfl (fun _ _ _ => rfl) rfl rfl rfl ?_
  refine zf_als (pc' := 3) dJ1_charAt_3b067_2 rfl hp0 ?_
  refine zf_is (k := 218) (pc' := 6) (r := []) dJ1_charAt_3b067_3 rfl rfl rfl rfl rfl (zr_218 (Q := fun m' => m' = m) (by omega) (by rw [(zk_len t0 hp0).1]; exact hi) rfl) (zf_kO (fun m2 h2 => ?_))
  subst h2
  refine zf_ld (pc' := 7) (v := .inr (.inr (3, t0))) dJ1_charAt_3b067_6 rfl (fun _ _ _ => rfl) rfl rfl rfl ?_
  refine zf_ld (pc' := 8) (v := .inl i) dJ1_charAt_3b067_7 rfl (fun _ _ _ => rfl) rfl rfl rfl ?_
  refine zf_bal (pc' := 9) dJ1_charAt_3b067_8 rfl hp0 hi ?_
  refine zf_si (v := 255) (pc' := 12) dJ1_charAt_3b067_9 rfl rfl ?_
  refine zf_in (pc' := 13) (S' := [.inl ((zx_sb.getD t0 []).getD i.toInt.toNat 0 &&& 255)]) dJ1_charAt_3b067_12 rfl (fun _ _ _ => rfl) ?_
  refine zf_in (pc' := 14) (S' := [.inl (zk_let t0 i.toInt.toNat)]) dJ1_charAt_3b067_13 rfl (fun _ _ _ => rfl) ?_
  exact zf_rx dJ1_charAt_3b067_14 rfl hl.2 (by rw [hl.1]; exact h)
def wp_214 (t0 : Nat) (m : zf_Me) (Q : Int32 → zf_Me → Prop) : Prop := Q (Int32.ofNat (zx_sl.getD t0 0)) m
theorem zr_214 {d : Nat} (hd : 1 ≤ d) {t0 : Nat} (hp0 : t0 < 12) {m : zf_Me} {Q : Int32 → zf_Me → Prop} (h : wp_214 t0 m Q) : zf_M d 214 [.inr (.inr (2, t0))] m (zf_I Q) := by
  obtain ⟨e, rfl⟩ : ∃ z, d = z + 1 := ⟨d - 1, by omega⟩
  refine zf_M_of (Nat.le_of_ble_eq_true rfl) zm_214 (L := [some (.inr (.inr (2, t0)))]) rfl ?_
  refine zf_ld (pc' := 1) (v := .inr (.inr (2, t0))) dJ0_length_8abf5_0 rfl (fun _ _ _ => rfl) rfl rfl rfl ?_
  refine zf_gfv (pc' := 4) dJ0_length_8abf5_1 rfl rfl hp0 ?_
  refine zf_als (pc' := 5) dJ0_length_8abf5_4 rfl hp0 ?_
  refine zf_ld (pc' := 6) (v := .inr (.inr (2, t0))) dJ0_length_8abf5_5 rfl (fun _ _ _ => rfl) rfl rfl rfl ?_
  refine zf_iv2 (k := 216) (pc' := 9) (r := [.inl (Int32.ofNat (zx_sl.getD t0 0))]) dJ0_length_8abf5_6 rfl rfl rfl rfl hp0 rfl rfl (zr_216 (Q := fun x m' => x = 0 ∧ m' = m) hp0 ⟨rfl, rfl⟩) (zf_kI (fun x m2 h2 => ?_))
  obtain ⟨rfl, rfl⟩ := h2
  refine zf_in (pc' := 10) (S' := [.inl (Int32.ofNat (zx_sl.getD t0 0) >>> ((0 : Int32) &&& 31))]) dJ0_length_8abf5_9 rfl (fun _ _ _ => rfl) ?_
  exact zf_ri dJ0_length_8abf5_10 rfl (by rw [(zk_len t0 hp0).2]; exact h)
def wp_215 (t0 : Nat) (v1 : Int32) (m : zf_Me) (Q : Int32 → zf_Me → Prop) : Prop := (0 ≤ v1.toInt ∧ v1.toInt < (zx_sl.getD t0 0 : Nat)) ∧ Q ((zx_sb.getD t0 []).getD v1.toInt.toNat 0) m
theorem zr_215 {d : Nat} (hd : 3 ≤ d) {t0 : Nat} (hp0 : t0 < 12) {v1 : Int32} {m : zf_Me} {Q : Int32 → zf_Me → Prop} (h : wp_215 t0 v1 m Q) : zf_M d 215 [.inr (.inr (2, t0)), .inl v1] m (zf_I Q) := by
  obtain ⟨e, rfl⟩ : ∃ z, d = z + 1 := ⟨d - 1, by omega⟩
  have hl := zk_let_ok t0 hp0 v1.toInt.toNat (by have := h.1; omega)
  refine zf_M_of (Nat.le_of_ble_eq_true rfl) zm_215 (L := [some (.inr (.inr (2, t0))), some (.inl v1)]) rfl ?_
  refine zf_ld (pc' := 1) (v := .inr (.inr (2, t0))) dJ0_charAt_5068e_0 rfl (fun _ _ _ => rfl) rfl rfl rfl ?_
  refine zf_iv2 (k := 217) (pc' := 4) (r := []) dJ0_charAt_5068e_1 rfl rfl rfl rfl hp0 rfl rfl (zr_217 (Q := fun x m' => x = true ∧ m' = m) hp0 ⟨rfl, rfl⟩) (zf_kB (fun b m2 h2 => ?_))
  obtain ⟨rfl, rfl⟩ := h2
  refine zf_ib_eq (tgt := 16) (pc' := 7) dJ0_charAt_5068e_4 rfl rfl (fun g => nomatch g) (fun _ => ?_)
  refine zf_ld (pc' := 8) (v := .inr (.inr (2, t0))) dJ0_charAt_5068e_7 rfl (fun _ _ _ => rfl) rfl rfl rfl ?_
  refine zf_gfv (pc' := 11) dJ0_charAt_5068e_8 rfl rfl hp0 ?_
  refine zf_ld (pc' := 12) (v := .inl v1) dJ0_charAt_5068e_11 rfl (fun _ _ _ => rfl) rfl rfl rfl ?_
  refine zf_is (k := 219) (pc' := 15) (r := []) dJ0_charAt_5068e_12 rfl rfl rfl rfl rfl (zr_219 (Q := fun x m' => x = (zx_sb.getD t0 []).getD v1.toInt.toNat 0 ∧ m' = m2) (by omega) hp0 h.1 ⟨rfl, rfl⟩) (zf_kI (fun x m3 h2 => ?_))
  obtain ⟨rfl, rfl⟩ := h2
  exact zf_rx dJ0_charAt_5068e_15 rfl (by rw [← hl.1]; exact hl.2) h.2
end
