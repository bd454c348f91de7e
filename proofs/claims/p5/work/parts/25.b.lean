noncomputable section
def WX : sW := [.inr (12, [.ref 1, .ref 3, .ref 14, .ref 24, .ref 31, .ref 37, .ref 43, .ref 49, .ref 54, .ref 66, .ref 77, .ref 81, .ref 97, .ref 99, .int 0, .int 0, .ref 100, .ref 101, .ref 102, .ref 103]),
  .inr (10, [.ref 2, .int 0, .int 0, .int 0, .int 0, .int 0, .int 0, .long 0, .int 0, .long 0, .int 0, .int 0, .int 0]),
  .inl (1, List.replicate 940 (.int 0)),
  .inr (3, [.ref 4, .int 0, .int 0, .int 0, .int 0]),
  .inr (7, [.int 4, .int 5, .int 0, .int 0, .int 0, .int 0, .ref 5, .ref 6, .ref 7, .ref 8, .ref 9, .ref 10, .ref 11, .ref 12, .ref 13]),
  .inl (2, List.replicate 10 (.long 0)),
  .inl (1, List.replicate 10 (.int 0)),
  .inl (1, List.replicate 10 (.int 0)),
  .inl (1, List.replicate 10 (.int (-1))),
  .inl (1, List.replicate 10 (.int 0)),
  .inl (1, List.replicate 36 (.int (-1))),
  .inl (2, [.long 0, .long 0, .long 0, .long 0, .long 0, .long 0]),
  .inl (1, [.int 0, .int 0, .int 0, .int 0, .int 0, .int 0]),
  .inl (1, [.int 0, .int 0, .int 0, .int 0, .int 0, .int 0]),
  .inr (7, [.int 4, .int 5, .int 0, .int 0, .int 0, .int 0, .ref 15, .ref 16, .ref 17, .ref 18, .ref 19, .ref 20, .ref 21, .ref 22, .ref 23]),
  .inl (2, List.replicate 10 (.long 0)),
  .inl (1, List.replicate 10 (.int 0)),
  .inl (1, List.replicate 10 (.int 0)),
  .inl (1, List.replicate 10 (.int (-1))),
  .inl (1, List.replicate 10 (.int 0)),
  .inl (1, List.replicate 36 (.int (-1))),
  .inl (2, [.long 0, .long 0, .long 0, .long 0, .long 0, .long 0]),
  .inl (1, [.int 0, .int 0, .int 0, .int 0, .int 0, .int 0]),
  .inl (1, [.int 0, .int 0, .int 0, .int 0, .int 0, .int 0]),
  .inr (9, [.int 0, .int 0, .int 0, .ref 25, .ref 26, .ref 27, .ref 28, .ref 29, .ref 30]),
  .inl (1, List.replicate 10 (.int 0)),
  .inl (1, List.replicate 10 (.int (-1))),
  .inl (1, List.replicate 10 (.int 0)),
  .inl (1, List.replicate 36 (.int (-1))),
  .inl (1, List.replicate 36 (.int 0)),
  .inl (1, [.int 0, .int 0, .int 0, .int 0, .int 0, .int 0]),
  .inr (8, [.ref 32, .ref 33, .ref 34, .int 0, .ref 35, .int 0, .int 0, .ref 36, .int 0]),
  .inl (1, List.replicate 40 (.int 0)),
  .inl (1, List.replicate 40 (.int 0)),
  .inl (1, List.replicate 40 (.int 0)),
  .inl (1, List.replicate 40 (.int 0)),
  .inl (1, List.replicate 40 (.int 0)),
  .inr (8, [.ref 38, .ref 39, .ref 40, .int 0, .ref 41, .int 0, .int 0, .ref 42, .int 0]),
  .inl (1, List.replicate 40 (.int 0)),
  .inl (1, List.replicate 40 (.int 0)),
  .inl (1, List.replicate 40 (.int 0)),
  .inl (1, List.replicate 40 (.int 0)),
  .inl (1, List.replicate 40 (.int 0)),
  .inr (2, [.ref 44, .ref 45, .ref 46, .ref 47, .int 0, .ref 48]),
  .inl (1, List.replicate 40 (.int 0)),
  .inl (1, List.replicate 40 (.int 0)),
  .inl (1, List.replicate 40 (.int 0)),
  .inl (1, List.replicate 40 (.int 0)),
  .inl (1, [.int (-1), .int (-1), .int (-1), .int (-1)]),
  .inr (11, [.ref 50, .ref 51, .ref 52, .ref 53]),
  .inl (1, List.replicate 36 (.int 0)),
  .inl (1, List.replicate 48 (.int 0)),
  .inl (1, List.replicate 48 (.int 0)),
  .inl (1, List.replicate 12 (.int 0)),
  .inr (1, [.ref 55, .ref 62, .ref 63, .ref 64, .ref 65]),
  .inr (9, [.int 0, .int 0, .int 0, .ref 56, .ref 57, .ref 58, .ref 59, .ref 60, .ref 61]),
  .inl (1, List.replicate 10 (.int 0)),
  .inl (1, List.replicate 10 (.int (-1))),
  .inl (1, List.replicate 10 (.int 0)),
  .inl (1, List.replicate 36 (.int (-1))),
  .inl (1, List.replicate 36 (.int 0)),
  .inl (1, [.int 0, .int 0, .int 0, .int 0, .int 0, .int 0]),
  .inl (1, List.replicate 48 (.int 0)),
  .inl (1, List.replicate 48 (.int 0)),
  .inl (1, List.replicate 144 (.int 0)),
  .inl (1, List.replicate 36 (.int (-1))),
  .inr (4, [.ref 67, .ref 74, .ref 75, .ref 76, .int 0]),
  .inr (9, [.int 0, .int 0, .int 0, .ref 68, .ref 69, .ref 70, .ref 71, .ref 72, .ref 73]),
  .inl (1, List.replicate 10 (.int 0)),
  .inl (1, List.replicate 10 (.int (-1))),
  .inl (1, List.replicate 10 (.int 0)),
  .inl (1, List.replicate 36 (.int (-1))),
  .inl (1, List.replicate 36 (.int 0)),
  .inl (1, [.int 0, .int 0, .int 0, .int 0, .int 0, .int 0]),
  .inl (1, List.replicate 96 (.int 0)),
  .inl (1, List.replicate 208 (.int 0)),
  .inl (1, [.int 0, .int 0, .int 0]),
  .inr (6, [.ref 78, .ref 79, .ref 80, .int (-1), .int (-1)]),
  .inl (1, List.replicate 576 (.int 0)),
  .inl (1, List.replicate 12 (.int 0)),
  .inl (1, [.int 0, .int 0, .int 0, .int 0, .int 0, .int 0]),
  .inr (5, [.ref 82, .ref 89, .int 0, .ref 96, .int 0]),
  .inr (9, [.int 0, .int 0, .int 0, .ref 83, .ref 84, .ref 85, .ref 86, .ref 87, .ref 88]),
  .inl (1, List.replicate 10 (.int 0)),
  .inl (1, List.replicate 10 (.int (-1))),
  .inl (1, List.replicate 10 (.int 0)),
  .inl (1, List.replicate 36 (.int (-1))),
  .inl (1, List.replicate 36 (.int 0)),
  .inl (1, [.int 0, .int 0, .int 0, .int 0, .int 0, .int 0]),
  .inr (9, [.int 0, .int 0, .int 0, .ref 90, .ref 91, .ref 92, .ref 93, .ref 94, .ref 95]),
  .inl (1, List.replicate 10 (.int 0)),
  .inl (1, List.replicate 10 (.int (-1))),
  .inl (1, List.replicate 10 (.int 0)),
  .inl (1, List.replicate 36 (.int (-1))),
  .inl (1, List.replicate 36 (.int 0)),
  .inl (1, [.int 0, .int 0, .int 0, .int 0, .int 0, .int 0]),
  .inl (1, [.int 0, .int 0, .int 0, .int 0, .int 0, .int 0]),
  .inr (0, [.ref 98, .int 0, .int 0, .int 0]),
  .inl (0, List.replicate 16 (.int 0)),
  .inl (6, [.ref 104, .ref 111, .ref 118, .ref 125, .ref 132, .ref 139, .ref 146, .ref 153, .ref 160]),
  .inl (4, [.ref 167, .ref 190]),
  .inl (6, [.ref 177, .ref 200]),
  .inl (5, [.ref 184, .ref 207]),
  .inl (3, [.int 0, .int 0]),
  .inr (9, [.int 0, .int 0, .int 0, .ref 105, .ref 106, .ref 107, .ref 108, .ref 109, .ref 110]),
  .inl (1, List.replicate 10 (.int 0)),
  .inl (1, List.replicate 10 (.int (-1))),
  .inl (1, List.replicate 10 (.int 0)),
  .inl (1, List.replicate 36 (.int (-1))),
  .inl (1, List.replicate 36 (.int 0)),
  .inl (1, [.int 0, .int 0, .int 0, .int 0, .int 0, .int 0]),
  .inr (9, [.int 0, .int 0, .int 0, .ref 112, .ref 113, .ref 114, .ref 115, .ref 116, .ref 117]),
  .inl (1, List.replicate 10 (.int 0)),
  .inl (1, List.replicate 10 (.int (-1))),
  .inl (1, List.replicate 10 (.int 0)),
  .inl (1, List.replicate 36 (.int (-1))),
  .inl (1, List.replicate 36 (.int 0)),
  .inl (1, [.int 0, .int 0, .int 0, .int 0, .int 0, .int 0]),
  .inr (9, [.int 0, .int 0, .int 0, .ref 119, .ref 120, .ref 121, .ref 122, .ref 123, .ref 124]),
  .inl (1, List.replicate 10 (.int 0)),
  .inl (1, List.replicate 10 (.int (-1))),
  .inl (1, List.replicate 10 (.int 0)),
  .inl (1, List.replicate 36 (.int (-1))),
  .inl (1, List.replicate 36 (.int 0)),
  .inl (1, [.int 0, .int 0, .int 0, .int 0, .int 0, .int 0]),
  .inr (9, [.int 0, .int 0, .int 0, .ref 126, .ref 127, .ref 128, .ref 129, .ref 130, .ref 131]),
  .inl (1, List.replicate 10 (.int 0)),
  .inl (1, List.replicate 10 (.int (-1))),
  .inl (1, List.replicate 10 (.int 0)),
  .inl (1, List.replicate 36 (.int (-1))),
  .inl (1, List.replicate 36 (.int 0)),
  .inl (1, [.int 0, .int 0, .int 0, .int 0, .int 0, .int 0]),
  .inr (9, [.int 0, .int 0, .int 0, .ref 133, .ref 134, .ref 135, .ref 136, .ref 137, .ref 138]),
  .inl (1, List.replicate 10 (.int 0)),
  .inl (1, List.replicate 10 (.int (-1))),
  .inl (1, List.replicate 10 (.int 0)),
  .inl (1, List.replicate 36 (.int (-1))),
  .inl (1, List.replicate 36 (.int 0)),
  .inl (1, [.int 0, .int 0, .int 0, .int 0, .int 0, .int 0]),
  .inr (9, [.int 0, .int 0, .int 0, .ref 140, .ref 141, .ref 142, .ref 143, .ref 144, .ref 145]),
  .inl (1, List.replicate 10 (.int 0)),
  .inl (1, List.replicate 10 (.int (-1))),
  .inl (1, List.replicate 10 (.int 0)),
  .inl (1, List.replicate 36 (.int (-1))),
  .inl (1, List.replicate 36 (.int 0)),
  .inl (1, [.int 0, .int 0, .int 0, .int 0, .int 0, .int 0]),
  .inr (9, [.int 0, .int 0, .int 0, .ref 147, .ref 148, .ref 149, .ref 150, .ref 151, .ref 152]),
  .inl (1, List.replicate 10 (.int 0)),
  .inl (1, List.replicate 10 (.int (-1))),
  .inl (1, List.replicate 10 (.int 0)),
  .inl (1, List.replicate 36 (.int (-1))),
  .inl (1, List.replicate 36 (.int 0)),
  .inl (1, [.int 0, .int 0, .int 0, .int 0, .int 0, .int 0]),
  .inr (9, [.int 0, .int 0, .int 0, .ref 154, .ref 155, .ref 156, .ref 157, .ref 158, .ref 159]),
  .inl (1, List.replicate 10 (.int 0)),
  .inl (1, List.replicate 10 (.int (-1))),
  .inl (1, List.replicate 10 (.int 0)),
  .inl (1, List.replicate 36 (.int (-1))),
  .inl (1, List.replicate 36 (.int 0)),
  .inl (1, [.int 0, .int 0, .int 0, .int 0, .int 0, .int 0]),
  .inr (9, [.int 0, .int 0, .int 0, .ref 161, .ref 162, .ref 163, .ref 164, .ref 165, .ref 166]),
  .inl (1, List.replicate 10 (.int 0)),
  .inl (1, List.replicate 10 (.int (-1))),
  .inl (1, List.replicate 10 (.int 0)),
  .inl (1, List.replicate 36 (.int (-1))),
  .inl (1, List.replicate 36 (.int 0)),
  .inl (1, [.int 0, .int 0, .int 0, .int 0, .int 0, .int 0]),
  .inr (7, [.int 4, .int 5, .int 0, .int 0, .int 0, .int 0, .ref 168, .ref 169, .ref 170, .ref 171, .ref 172, .ref 173, .ref 174, .ref 175, .ref 176]),
  .inl (2, List.replicate 10 (.long 0)),
  .inl (1, List.replicate 10 (.int 0)),
  .inl (1, List.replicate 10 (.int 0)),
  .inl (1, List.replicate 10 (.int (-1))),
  .inl (1, List.replicate 10 (.int 0)),
  .inl (1, List.replicate 36 (.int (-1))),
  .inl (2, [.long 0, .long 0, .long 0, .long 0, .long 0, .long 0]),
  .inl (1, [.int 0, .int 0, .int 0, .int 0, .int 0, .int 0]),
  .inl (1, [.int 0, .int 0, .int 0, .int 0, .int 0, .int 0]),
  .inr (9, [.int 0, .int 0, .int 0, .ref 178, .ref 179, .ref 180, .ref 181, .ref 182, .ref 183]),
  .inl (1, List.replicate 10 (.int 0)),
  .inl (1, List.replicate 10 (.int (-1))),
  .inl (1, List.replicate 10 (.int 0)),
  .inl (1, List.replicate 36 (.int (-1))),
  .inl (1, List.replicate 36 (.int 0)),
  .inl (1, [.int 0, .int 0, .int 0, .int 0, .int 0, .int 0]),
  .inr (8, [.ref 185, .ref 186, .ref 187, .int 0, .ref 188, .int 0, .int 0, .ref 189, .int 0]),
  .inl (1, List.replicate 40 (.int 0)),
  .inl (1, List.replicate 40 (.int 0)),
  .inl (1, List.replicate 40 (.int 0)),
  .inl (1, List.replicate 40 (.int 0)),
  .inl (1, List.replicate 40 (.int 0)),
  .inr (7, [.int 4, .int 5, .int 0, .int 0, .int 0, .int 0, .ref 191, .ref 192, .ref 193, .ref 194, .ref 195, .ref 196, .ref 197, .ref 198, .ref 199]),
  .inl (2, List.replicate 10 (.long 0)),
  .inl (1, List.replicate 10 (.int 0)),
  .inl (1, List.replicate 10 (.int 0)),
  .inl (1, List.replicate 10 (.int (-1))),
  .inl (1, List.replicate 10 (.int 0)),
  .inl (1, List.replicate 36 (.int (-1))),
  .inl (2, [.long 0, .long 0, .long 0, .long 0, .long 0, .long 0]),
  .inl (1, [.int 0, .int 0, .int 0, .int 0, .int 0, .int 0]),
  .inl (1, [.int 0, .int 0, .int 0, .int 0, .int 0, .int 0]),
  .inr (9, [.int 0, .int 0, .int 0, .ref 201, .ref 202, .ref 203, .ref 204, .ref 205, .ref 206]),
  .inl (1, List.replicate 10 (.int 0)),
  .inl (1, List.replicate 10 (.int (-1))),
  .inl (1, List.replicate 10 (.int 0)),
  .inl (1, List.replicate 36 (.int (-1))),
  .inl (1, List.replicate 36 (.int 0)),
  .inl (1, [.int 0, .int 0, .int 0, .int 0, .int 0, .int 0]),
  .inr (8, [.ref 208, .ref 209, .ref 210, .int 0, .ref 211, .int 0, .int 0, .ref 212, .int 0]),
  .inl (1, List.replicate 40 (.int 0)),
  .inl (1, List.replicate 40 (.int 0)),
  .inl (1, List.replicate 40 (.int 0)),
  .inl (1, List.replicate 40 (.int 0)),
  .inl (1, List.replicate 40 (.int 0))]
def WM : sW := [.inr (13, [.int 0, .ref 214, .int 0, .int 0, .int 0, .int 0, .int 0, .int 0, .int 0, .int 0, .int 0, .int 0, .long 0, .int 0, .ref 215, .ref 216, .ref 217, .ref 218, .ref 219, .ref 220, .ref 221, .ref 222, .ref 223, .int 0, .int 0, .int 0, .int 0, .ref 224, .int 0, .ref 225, .ref 226, .ref 227, .ref 228, .ref 229, .ref 230, .int 0, .int 0, .ref 231, .ref 232, .int 0, .ref 233, .ref 234, .ref 235, .int 0, .int 0, .ref 236, .int (-1), .int (-1), .ref 237, .int 0, .int 0, .ref 238, .ref 239, .int 0, .int 0, .ref 240, .int 0, .int 0, .int 0, .int 0]),
  .inl (1, List.replicate 940 (.int 0)),
  .inl (1, [.int 4, .int 0, .int 0, .int 0, .int 5, .int 0, .int 0, .int 0, .int 0, .int 0, .int 0, .int 0, .int 0, .int 0, .int 0, .int 0, .int 0, .int 0, .int 0, .int 0, .int 0, .int 0, .int 0, .int 0, .int 0, .int 0, .int (-1), .int (-1), .int (-1), .int (-1), .int (-1), .int (-1), .int (-1), .int (-1), .int (-1), .int (-1), .int 0, .int 0, .int 0, .int 0, .int 0, .int 0, .int 0, .int 0, .int 0, .int 0, .int (-1), .int (-1), .int (-1), .int (-1), .int (-1), .int (-1), .int (-1), .int (-1), .int (-1), .int (-1), .int (-1), .int (-1), .int (-1), .int (-1), .int (-1), .int (-1), .int (-1), .int (-1), .int (-1), .int (-1), .int (-1), .int (-1), .int (-1), .int (-1), .int (-1), .int (-1), .int (-1), .int (-1), .int (-1), .int (-1), .int (-1), .int (-1), .int (-1), .int (-1), .int (-1), .int (-1), .int 0, .int 0, .int 0, .int 0, .int 0, .int 0, .int 0, .int 0, .int 0, .int 0, .int 0, .int 0, .int 0, .int 0, .int 0, .int 0, .int 0, .int 0, .int 0, .int 0, .int 0, .int 0, .int 0, .int 0, .int 0, .int 0, .int (-1), .int (-1), .int (-1), .int (-1), .int (-1), .int (-1), .int (-1), .int (-1), .int (-1), .int (-1), .int (-1), .int (-1), .int (-1), .int (-1), .int (-1), .int (-1), .int (-1), .int (-1), .int (-1), .int (-1), .int (-1), .int (-1), .int (-1), .int (-1), .int (-1), .int (-1), .int (-1), .int (-1), .int (-1), .int (-1), .int (-1), .int (-1), .int (-1), .int (-1), .int (-1), .int (-1), .int (-1), .int (-1), .int (-1), .int (-1), .int (-1), .int (-1), .int (-1), .int (-1), .int (-1), .int (-1), .int 0, .int 0, .int 0, .int 0, .int 0, .int 0, .int 0, .int 0, .int 0, .int 0, .int 0, .int 0, .int 0, .int 0, .int 0, .int 0, .int 0, .int 0, .int 0, .int 0, .int 0, .int 0, .int 0, .int 0, .int 0, .int 0, .int 0, .int 0, .int 0, .int 0, .int 0, .int 0, .int 0, .int 0, .int 0, .int 0, .int 0, .int 0, .int 0, .int 0, .int 0, .int 0, .int 0, .int 0, .int 0, .int 0, .int 0, .int 0, .int 0, .int 0, .int 0, .int 0, .int 0, .int 0, .int 0, .int 0, .int 0, .int 0, .int 0, .int 0, .int 0, .int 0, .int 0, .int 0, .int 0, .int 0, .int 0, .int 0, .int 0, .int 0, .int 0, .int 0, .int 0, .int 0, .int 0, .int 0, .int 0, .int 0, .int 0, .int 0, .int 0, .int 0, .int 0, .int 0, .int 0, .int 0, .int 0, .int 0, .int 0, .int 0, .int 0, .int 0, .int 0, .int 0, .int 0, .int 0, .int 0, .int 0, .int 0, .int 0, .int 0, .int 0, .int 0, .int 0, .int 0, .int 0, .int 0, .int 0, .int 0, .int 0, .int 0, .int 0, .int 0, .int 0, .int 0, .int 0, .int 0, .int 0, .int 0, .int 0, .int 0, .int 0, .int 0, .int 0, .int 0, .int 0, .int 0, .int 0, .int 0, .int 0, .int 0, .int 0, .int 0, .int 0, .int 0, .int 0, .int 0, .int 0, .int 0, .int 0, .int 0, .int 0, .int 0, .int 0, .int 0, .int 0, .int 0, .int 0, .int 0, .int 0, .int 0, .int 0, .int 0, .int 0, .int 0, .int 0, .int 0, .int 0, .int 0, .int 0, .int 0, .int 0, .int 0, .int 0, .int 0, .int 0, .int 0, .int 0, .int 0, .int 0, .int 0, .int 0, .int 0, .int 0, .int 0, .int 0, .int 0, .int 0, .int 0, .int 0, .int 0, .int 0, .int 0, .int 0, .int 0, .int 0, .int 0, .int 0, .int 0, .int 0, .int 0, .int 0, .int 0, .int 0, .int 0, .int 0, .int 0, .int 0, .int 0, .int 0, .int 0, .int 0, .int 0, .int 0, .int 0, .int 0, .int 0, .int 0, .int 0, .int 0, .int 0, .int 0, .int 0, .int 0, .int 0, .int 0, .int 0, .int 0, .int 0, .int 0, .int 0, .int 0, .int 0, .int 0, .int 0, .int 0, .int 0, .int 0, .int 0, .int 0, .int 0, .int 0, .int 0, .int 0, .int 0, .int 0, .int 0, .int 0, .int 0, .int 0, .int 0, .int 0, .int 0, .int 0, .int 0, .int 0, .int 0, .int 0, .int 0, .int 0, .int 0, .int 0, .int 0, .int 0, .int 0, .int 0, .int 0, .int 0, .int 0, .int 0, .int 0, .int 0, .int 0, .int 0, .int 0, .int 0, .int 0, .int 0, .int 0, .int 0, .int 0, .int 0, .int 0, .int 0, .int 0, .int 0, .int 0, .int 0, .int 0, .int 0, .int 0, .int 0, .int 0, .int 0]),
  .inl (1, [.int 4, .int 0, .int 0, .int 0, .int 5, .int 0, .int 0, .int 0, .int 0, .int 0, .int 0, .int 0, .int 0, .int 0, .int 0, .int 0, .int 0, .int 0, .int 0, .int 0, .int 0, .int 0, .int 0, .int 0, .int 0, .int 0, .int (-1), .int (-1), .int (-1), .int (-1), .int (-1), .int (-1), .int (-1), .int (-1), .int (-1), .int (-1), .int 0, .int 0, .int 0, .int 0, .int 0, .int 0, .int 0, .int 0, .int 0, .int 0, .int (-1), .int (-1), .int (-1), .int (-1), .int (-1), .int (-1), .int (-1), .int (-1), .int (-1), .int (-1), .int (-1), .int (-1), .int (-1), .int (-1), .int (-1), .int (-1), .int (-1), .int (-1), .int (-1), .int (-1), .int (-1), .int (-1), .int (-1), .int (-1), .int (-1), .int (-1), .int (-1), .int (-1), .int (-1), .int (-1), .int (-1), .int (-1), .int (-1), .int (-1), .int (-1), .int (-1), .int 0, .int 0, .int 0, .int 0, .int 0, .int 0, .int 0, .int 0, .int 0, .int 0, .int 0, .int 0]),
  .inl (1, List.replicate 876 (.int 0)),
  .inl (1, List.replicate 816 (.int 0)),
  .inl (1, List.replicate 102 (.int 0)),
  .inl (2, List.replicate 16 (.long 0)),
  .inl (2, List.replicate 16 (.long 0)),
  .inl (2, List.replicate 32 (.long 0)),
  .inl (3, [.int 0, .int 0]),
  .inl (1, List.replicate 36 (.int 0)),
  .inl (1, List.replicate 48 (.int 0)),
  .inl (1, List.replicate 12 (.int 0)),
  .inl (1, List.replicate 48 (.int 0)),
  .inl (1, List.replicate 36 (.int 0)),
  .inl (1, List.replicate 36 (.int 0)),
  .inl (1, [.int 0, .int 0, .int 0]),
  .inl (1, [.int 0, .int 0, .int 0]),
  .inl (1, [.int 0, .int 0, .int 0]),
  .inl (1, [.int 0, .int 0, .int 0, .int 0, .int 0, .int 0]),
  .inl (1, [.int 0, .int 0, .int 0, .int 0, .int 0, .int 0]),
  .inl (1, List.replicate 720 (.int 0)),
  .inl (1, [.int 0, .int 0, .int 0, .int 0, .int 0, .int 0]),
  .inl (1, List.replicate 64 (.int 0)),
  .inl (1, List.replicate 160 (.int 0)),
  .inl (1, [.int 0, .int 0, .int 0, .int 0]),
  .inl (1, List.replicate 240 (.int 0))]
def W0 : sW := WX ++ WM
def knT : sKn := (fun _ _ _ => none, [])
def wInit : sW := [.inr (12, [.null, .null, .null, .null, .null, .null, .null, .null, .null, .null, .null, .null, .null, .null, .int 0, .int 0, .null, .null, .null, .null])]
-- ===== a load of the script, with what is known of it =====
def nrm (kn : sKn) (ss : sS) : sS := match ss.2.1 with
  | .float u :: st => match fv kn u 64 with
    | some c => (ss.1, .int c :: st, ss.2.2)
    | none => ss
  | _ => ss
def a_sldk (kn : sKn) (np : Nat) : sA := fun k ss => a_sld kn np (fun pc' ss' => k pc' (nrm kn ss')) ss
theorem ok_sldk {kn : sKn} {cc : ByteArray} {own : String} {nL : Nat} {Ts : List Cond} {D : Nat} {ret : Option FieldType} {ini : Bool} {pc : Nat} (hd : decode cc pc = .ok (.iaload, 1)) : mOk kn cc own nL Ts D ret ini pc (a_sldk kn (pc + 1)) := by
  intro p l e R s m args below meth c dC dI cy A ρ0 n0 Qc Q r X k hk ss h
  refine ok_sld hd p l e R s m args below meth c dC dI cy A ρ0 n0 Qc Q r X (fun pc' ss' => k pc' (nrm kn ss')) (fun pc' ss' hs => ?_) ss h
  have K := hk pc' _ hs
  unfold nrm at K
  split at K
  · rename_i u st hst
    split at K
    · rename_i c' hc
      refine ⟨K.1, fun H locs ls ρ hag hn hP hD hS hl => ?_⟩
      have e2 : vi ρ u = c' := eq_of_bsem b_eq_d bsem_0 (kn_at X.2.2.2.1.2.1.2.2 hag (fv_ok 64 hc))
      have G := K.2 H locs ls ρ hag hn hP hD hS hl
      rw [hst]
      show W p l e R s m args below meth c H locs ss'.2.2.2.1 ss'.2.2.2.2 Q (F0 m pc' ls (.int (vi ρ u) :: st.map (dv ρ)))
      rw [e2]
      exact G
    · exact K
  · exact K
-- ===== what is known may be more; a function known at one place =====
def g_of (av0 : List Value) (w0 : sW) (r0 : sR) : List Value → sW → Option sR := fun av w => match decide (av = av0 ∧ w = w0) with
  | true => some r0
  | false => none
theorem mg_of {kn : sKn} {y : MethodName} {ws : List Cond} {D : Nat} {vd : Bool} {f : List Value → sW → Option sR} {av0 : List Value} {w0 : sW} {r0 : sR} (h : mM kn y ws D vd f) (hf : f av0 w0 = some r0) : mM kn y ws D vd (g_of av0 w0 r0) := by
  intro l hst dC dI cy av w r hg hv
  unfold g_of at hg
  split at hg
  · rename_i e
    obtain ⟨rfl, rfl⟩ := of_decide_eq_true e
    cases hg
    exact h l hst dC dI cy _ _ _ hf hv
  · cases hg
-- ===== the two constructors =====
def okE (o : Option sR) (w0 : sW) (a0 b0 : Nat) : Bool := match o with
  | some (none, w, a, b) => match decide (w = w0) with
    | true => match Nat.beq a a0 with
      | true => Nat.beq b b0
      | false => false
    | false => false
  | _ => false
theorem okE_spec {o : Option sR} {w0 : sW} {a0 b0 : Nat} (h : okE o w0 a0 b0 = true) : o = some (none, w0, a0, b0) := by
  unfold okE at h
  split at h
  · rename_i w a b
    split at h
    · rename_i e
      split at h
      · rename_i e2
        rw [of_decide_eq_true e, Nat.eq_of_beq_eq_true e2, Nat.eq_of_beq_eq_true h]
      · cases h
    · cases h
  · cases h
def wM0 : sW := WX ++ [.inr (13, [.int 0, .null, .int 0, .int 0, .int 0, .int 0, .int 0, .int 0, .int 0, .int 0, .int 0, .int 0, .long 0, .int 0, .null, .null, .null, .null, .null, .null, .null, .null, .null, .int 0, .int 0, .int 0, .int 0, .null, .int 0, .null, .null, .null, .null, .null, .null, .int 0, .int 0, .null, .null, .int 0, .null, .null, .null, .int 0, .int 0, .null, .int 0, .int 0, .null, .int 0, .int 0, .null, .null, .int 0, .int 0, .null, .int 0, .int 0, .int 0, .int 0])]
set_option maxRecDepth 100000 in
theorem run_X : fX11_initK [.ref 0] wInit = some (none, WX, 212, 5700) := okE_spec (by decide +kernel)
set_option maxRecDepth 100000 in
theorem run_M : fX12_initK [.ref 213] wM0 = some (none, W0, 27, 4763) := okE_spec (by decide +kernel)
def gXi : List Value → sW → Option sR := g_of [.ref 0] wInit (none, WX, 212, 5700)
def gMi : List Value → sW → Option sR := g_of [.ref 213] wM0 (none, W0, 27, 4763)
/-- the world when the loop begins -/
def W1 : sW := W0 ++ [.inl (2, [.long 0])]
def vokb (ft : Nat × eE) (v : Value) : Bool := match ft.1 with
  | 0 => match v with
    | .int x => match ft.2 with
      | .inl q => match zle q.1 x.toInt with
        | true => zle x.toInt q.2
        | false => false
      | .inr _ => false
    | _ => false
  | 1 => match v with
    | .long x => match ft.2 with
      | .inl q => match zle q.1 x.toInt with
        | true => zle x.toInt q.2
        | false => false
      | .inr _ => false
    | _ => false
  | _ => match v with
    | .ref k => match ft.2 with
      | .inl q => match zle q.1 (Int.ofNat k) with
        | true => zle (Int.ofNat k) q.2
        | false => false
      | .inr t => match ztau k with
        | some t' => Nat.beq t' t
        | none => false
    | _ => false
theorem vokb_ok {ft : Nat × eE} {v : Value} (h : vokb ft v = true) : fvOk ZZ ft v := by
  obtain ⟨kd, e⟩ := ft
  match kd, h with
  | 0, h =>
    cases v with
    | int x =>
      cases e with
      | inl q =>
        have h : (match zle q.1 x.toInt with
          | true => zle x.toInt q.2
          | false => false) = true := h
        split at h
        · rename_i c
          exact ⟨x.toInt, ⟨x, rfl, rfl⟩, zle_iff.mp c, zle_iff.mp h⟩
        · cases h
      | inr t => exact absurd (show false = true from h) Bool.false_ne_true
    | _ => exact absurd (show false = true from h) Bool.false_ne_true
  | 1, h =>
    cases v with
    | long x =>
      cases e with
      | inl q =>
        have h : (match zle q.1 x.toInt with
          | true => zle x.toInt q.2
          | false => false) = true := h
        split at h
        · rename_i c
          exact ⟨x.toInt, ⟨x, rfl, rfl⟩, zle_iff.mp c, zle_iff.mp h⟩
        · cases h
      | inr t => exact absurd (show false = true from h) Bool.false_ne_true
    | _ => exact absurd (show false = true from h) Bool.false_ne_true
  | kd + 2, h =>
    cases v with
    | ref k =>
      cases e with
      | inl q =>
        have h : (match zle q.1 (Int.ofNat k) with
          | true => zle (Int.ofNat k) q.2
          | false => false) = true := h
        split at h
        · rename_i c
          exact ⟨(k : Int), ⟨k, rfl, rfl⟩, zle_iff.mp c, zle_iff.mp h⟩
        · cases h
      | inr t =>
        have h : (match ztau k with
          | some t' => Nat.beq t' t
          | none => false) = true := h
        split at h
        · rename_i t' ht
          have e := Nat.eq_of_beq_eq_true h
          subst e
          exact ⟨(k : Int), ⟨k, rfl, rfl⟩, k, rfl, ht⟩
        · cases h
    | _ => exact absurd (show false = true from h) Bool.false_ne_true
def cokb (ly : eL) (c : sC) : Bool := match ly with
  | .inl q => match c with
    | .inl p => match Nat.beq p.1 q.1 with
      | true => match Nat.beq p.2.length q.2.1 with
        | true => (List.range p.2.length).all (fun j => match p.2[j]? with
          | some v => match sga q.2.2 j with
            | some e => vokb (akd q.1, e) v
            | none => false
          | none => false)
        | false => false
      | false => false
    | .inr _ => false
  | .inr q => match c with
    | .inr p => match Nat.beq p.1 q.1 with
      | true => match Nat.beq p.2.length q.2.length with
        | true => (List.range p.2.length).all (fun j => match p.2[j]? with
          | some v => match q.2[j]? with
            | some ft => vokb ft v
            | none => false
          | none => false)
        | false => false
      | false => false
    | .inl _ => false
theorem cokb_ok {ly : eL} {c : sC} (h : cokb ly c = true) : cellOk ZZ ly c := by
  unfold cokb at h
  cases ly with
  | inl q =>
    cases c with
    | inr p => cases h
    | inl p =>
      try dsimp only at h
      split at h
      · rename_i c1
        have c1 := Nat.eq_of_beq_eq_true c1
        split at h
        · rename_i c2
          have c2 := Nat.eq_of_beq_eq_true c2
          obtain ⟨p1, p2⟩ := p
          try dsimp only at c1 c2 h
          refine ⟨p2, by rw [c1], c2, fun j v hv => ?_⟩
          have hj := (List.getElem?_eq_some_iff.mp hv).1
          have k := List.all_eq_true.mp h j (List.mem_range.mpr hj)
          try dsimp only at k
          rw [hv] at k
          try dsimp only at k
          split at k
          · rename_i e he
            exact ⟨e, he, vokb_ok k⟩
          · cases k
        · cases h
      · cases h
  | inr q =>
    cases c with
    | inl p => cases h
    | inr p =>
      try dsimp only at h
      split at h
      · rename_i c1
        have c1 := Nat.eq_of_beq_eq_true c1
        split at h
        · rename_i c2
          have c2 := Nat.eq_of_beq_eq_true c2
          obtain ⟨p1, p2⟩ := p
          try dsimp only at c1 c2 h
          refine ⟨p2, by rw [c1], c2, fun j v ft hv hft => ?_⟩
          have hj := (List.getElem?_eq_some_iff.mp hv).1
          have k := List.all_eq_true.mp h j (List.mem_range.mpr hj)
          try dsimp only at k
          rw [hv, hft] at k
          exact vokb_ok k
        · cases h
      · cases h
def wokb (w : sW) : Bool := zcl.all (fun q => match zly q.2 with
  | some ly => match w[q.1]? with
    | some c => cokb ly c
    | none => false
  | none => false)
theorem wokb_ok {w : sW} (hl : Nat.ble w.length 1000000 = true) (h : wokb w = true) : wOk ZZ w := by
  refine ⟨Nat.le_of_ble_eq_true hl, fun k t hk => ?_⟩
  have g := List.all_eq_true.mp h _ (zt_mem hk)
  dsimp only at g
  split at g
  · rename_i ly hly
    split at g
    · rename_i c hc
      exact ⟨ly, c, hly, hc, cokb_ok g⟩
    · cases g
  · cases g
set_option maxRecDepth 100000 in
theorem wok_1 : wOk ZZ W1 := wokb_ok (by decide +kernel) (by decide +kernel)
theorem si_0 {w : sW} {c b : Nat} (h1 : gX w c (b + 197) = 0) (h2 : gX w c (b + 198) = 0) : siG w c b := by
  intro i hi
  have e : i = 0 := by omega
  subst e
  unfold ndG
  rw [show b + 198 + 4 * 0 = b + 198 from rfl, h2]
  exact ⟨fun z => by omega, fun z => by omega, fun z => by omega⟩
theorem sn_0 {w : sW} {a b : Nat} (h : ∀ i < 40, gX w a i = 0) : snG w a b := by
  intro i hi
  rw [h i hi]
  unfold okCN
  exact ⟨fun z => by omega, fun z => by omega⟩
set_option maxRecDepth 100000 in
theorem pw_1 : PW W1 := ⟨⟨by decide +kernel, by decide +kernel, by decide +kernel, by decide +kernel⟩, si_0 (by decide +kernel) (by decide +kernel), si_0 (by decide +kernel) (by decide +kernel), si_0 (by decide +kernel) (by decide +kernel), sn_0 (by decide +kernel), sn_0 (by decide +kernel), sn_0 (by decide +kernel), sn_0 (by decide +kernel)⟩
set_option maxRecDepth 100000 in
theorem bd_1 : bdI W1 0 := ⟨98, 16, 0, List.replicate 16 (.int 0), ⟨⟨by decide +kernel, by decide +kernel, by decide +kernel, by decide +kernel⟩, Or.inl ⟨rfl, rfl, by decide +kernel⟩⟩, by omega⟩
set_option maxRecDepth 100000 in
theorem o98_1 : o98 W1 := ⟨List.replicate 16 (.int 0), by decide +kernel⟩
set_option maxRecDepth 100000 in
theorem kv_1 : KV W1 := by
  intro e he g
  have e2 : e = 0 ∨ e = 1 := by omega
  rcases e2 with rfl | rfl
  · rw [show gX W1 223 0 = 0 by decide +kernel] at g
    omega
  · rw [show gX W1 223 1 = 0 by decide +kernel] at g
    omega
set_option maxRecDepth 100000 in
theorem tk_1 : gF W1 1 1 = 0 ∧ gF W1 213 2 = 0 := by decide +kernel
end
