/-! THE HEAP AS A FUNCTION: its shape never changes behind the constructors -/
def dI (n : Nat) : List Value := List.replicate n (.int 0)
def dJ (n : Nat) : List Value := List.replicate n (.long 0)
def shI_0 : xH := [(9, [.ref 1, .ref 9, .ref 17, .ref 139, .ref 141, .ref 149, .ref 151, .ref 156, .ref 162, .int 0, .int 0, .int 0]), (0, [.int 0, .int 0, .int 0, .int 0, .int 0, .ref 2, .ref 3, .ref 4, .ref 5, .ref 6]), (100, dI 12), (100, dI 12), (100, dI 12), (100, dI 144), (3, [.ref 7, .ref 8]), (100, dI 12), (100, dI 12), (0, [.int 0, .int 0, .int 0, .int 0, .int 0, .ref 10, .ref 11, .ref 12, .ref 13, .ref 14]), (100, dI 12), (100, dI 12), (100, dI 12), (100, dI 144), (3, [.ref 15, .ref 16]), (100, dI 12), (100, dI 12), (2, [.ref 18, .int 0, .int 0]), (105, [.ref 19, .ref 27, .ref 35, .ref 43, .ref 51, .ref 59, .ref 67, .ref 75, .ref 83, .ref 91, .ref 99, .ref 107, .ref 115, .ref 123, .ref 131]), (0, [.int 0, .int 0, .int 0, .int 0, .int 0, .ref 20, .ref 21, .ref 22, .ref 23, .ref 24]), (100, dI 12), (100, dI 12), (100, dI 12), (100, dI 144), (3, [.ref 25, .ref 26]), (100, dI 12), (100, dI 12), (0, [.int 0, .int 0, .int 0, .int 0, .int 0, .ref 28, .ref 29, .ref 30, .ref 31, .ref 32]), (100, dI 12), (100, dI 12), (100, dI 12), (100, dI 144), (3, [.ref 33, .ref 34]), (100, dI 12), (100, dI 12), (0, [.int 0, .int 0, .int 0, .int 0, .int 0, .ref 36, .ref 37, .ref 38, .ref 39, .ref 40]), (100, dI 12), (100, dI 12), (100, dI 12), (100, dI 144), (3, [.ref 41, .ref 42]), (100, dI 12), (100, dI 12), (0, [.int 0, .int 0, .int 0, .int 0, .int 0, .ref 44, .ref 45, .ref 46, .ref 47, .ref 48]), (100, dI 12), (100, dI 12), (100, dI 12), (100, dI 144), (3, [.ref 49, .ref 50]), (100, dI 12), (100, dI 12), (0, [.int 0, .int 0, .int 0, .int 0, .int 0, .ref 52, .ref 53, .ref 54, .ref 55, .ref 56]), (100, dI 12), (100, dI 12), (100, dI 12), (100, dI 144), (3, [.ref 57, .ref 58]), (100, dI 12), (100, dI 12), (0, [.int 0, .int 0, .int 0, .int 0, .int 0, .ref 60, .ref 61, .ref 62, .ref 63, .ref 64])]
def shI_1 : xH := [(100, dI 12), (100, dI 12), (100, dI 12), (100, dI 144), (3, [.ref 65, .ref 66]), (100, dI 12), (100, dI 12), (0, [.int 0, .int 0, .int 0, .int 0, .int 0, .ref 68, .ref 69, .ref 70, .ref 71, .ref 72]), (100, dI 12), (100, dI 12), (100, dI 12), (100, dI 144), (3, [.ref 73, .ref 74]), (100, dI 12), (100, dI 12), (0, [.int 0, .int 0, .int 0, .int 0, .int 0, .ref 76, .ref 77, .ref 78, .ref 79, .ref 80]), (100, dI 12), (100, dI 12), (100, dI 12), (100, dI 144), (3, [.ref 81, .ref 82]), (100, dI 12), (100, dI 12), (0, [.int 0, .int 0, .int 0, .int 0, .int 0, .ref 84, .ref 85, .ref 86, .ref 87, .ref 88]), (100, dI 12), (100, dI 12), (100, dI 12), (100, dI 144), (3, [.ref 89, .ref 90]), (100, dI 12), (100, dI 12), (0, [.int 0, .int 0, .int 0, .int 0, .int 0, .ref 92, .ref 93, .ref 94, .ref 95, .ref 96]), (100, dI 12), (100, dI 12), (100, dI 12), (100, dI 144), (3, [.ref 97, .ref 98]), (100, dI 12), (100, dI 12), (0, [.int 0, .int 0, .int 0, .int 0, .int 0, .ref 100, .ref 101, .ref 102, .ref 103, .ref 104]), (100, dI 12), (100, dI 12), (100, dI 12), (100, dI 144), (3, [.ref 105, .ref 106]), (100, dI 12), (100, dI 12), (0, [.int 0, .int 0, .int 0, .int 0, .int 0, .ref 108, .ref 109, .ref 110, .ref 111, .ref 112]), (100, dI 12), (100, dI 12), (100, dI 12), (100, dI 144), (3, [.ref 113, .ref 114]), (100, dI 12), (100, dI 12), (0, [.int 0, .int 0, .int 0, .int 0, .int 0, .ref 116, .ref 117, .ref 118, .ref 119, .ref 120]), (100, dI 12), (100, dI 12), (100, dI 12), (100, dI 144)]
def shI_2 : xH := [(3, [.ref 121, .ref 122]), (100, dI 12), (100, dI 12), (0, [.int 0, .int 0, .int 0, .int 0, .int 0, .ref 124, .ref 125, .ref 126, .ref 127, .ref 128]), (100, dI 12), (100, dI 12), (100, dI 12), (100, dI 144), (3, [.ref 129, .ref 130]), (100, dI 12), (100, dI 12), (0, [.int 0, .int 0, .int 0, .int 0, .int 0, .ref 132, .ref 133, .ref 134, .ref 135, .ref 136]), (100, dI 12), (100, dI 12), (100, dI 12), (100, dI 144), (3, [.ref 137, .ref 138]), (100, dI 12), (100, dI 12), (6, [.ref 140, .int 0, .int 0, .int 0, .int 0, .int 0, .int 0, .int 0]), (100, dI 300), (7, [.ref 142, .ref 145, .ref 146, .ref 147, .ref 148, .int 0, .int 0, .int 0, .int 0, .int 0]), (3, [.ref 143, .ref 144]), (100, dI 12), (100, dI 12), (100, dI 12), (100, dI 12), (100, dI 12), (100, dI 24), (5, [.int 0, .int 0, .int 0, .int 0, .ref 150]), (100, dI 12), (4, [.ref 152, .ref 153, .ref 154, .ref 155, .int 0, .int 0, .int 0, .int 0, .int 0]), (100, dI 12), (100, dI 12), (100, dI 12), (100, dI 12), (8, [.ref 157, .ref 158, .ref 159, .ref 160, .ref 161, .long 0, .long 0, .int 0]), (101, dJ 4096), (101, dJ 4096), (101, dJ 4096), (100, dI 4096), (100, dI 12), (1, [.ref 163, .ref 164, .ref 165, .ref 166, .ref 167, .int 0]), (100, dI 144), (100, dI 144), (100, dI 144), (100, dI 24), (100, dI 24), (10, [.int 0, .ref 169, .int 0, .int 0, .int 0, .int 0, .int 0, .int 0, .ref 170, .ref 171, .ref 190, .ref 209, .ref 228, .ref 247, .int 0, .int 0, .int 0, .ref 482, .int 0, .ref 483, .int 0, .int 0, .int 0, .int 0, .ref 484, .ref 485, .int 0, .int 0, .ref 486, .int 0, .int 0, .int 0, .ref 487, .ref 500, .ref 501, .ref 502, .ref 503, .ref 504, .ref 518]), (100, dI 2), (100, dI 300), (102, [.ref 172, .ref 173, .ref 174, .ref 175, .ref 176, .ref 177, .ref 178, .ref 179, .ref 180, .ref 181, .ref 182, .ref 183, .ref 184, .ref 185, .ref 186, .ref 187, .ref 188, .ref 189]), (100, dI 5), (100, dI 5), (100, dI 5), (100, dI 5), (100, dI 5), (100, dI 5), (100, dI 5), (100, dI 5)]
def shI_3 : xH := [(100, dI 5), (100, dI 5), (100, dI 5), (100, dI 5), (100, dI 5), (100, dI 5), (100, dI 5), (100, dI 5), (100, dI 5), (100, dI 5), (102, [.ref 191, .ref 192, .ref 193, .ref 194, .ref 195, .ref 196, .ref 197, .ref 198, .ref 199, .ref 200, .ref 201, .ref 202, .ref 203, .ref 204, .ref 205, .ref 206, .ref 207, .ref 208]), (100, dI 12), (100, dI 12), (100, dI 12), (100, dI 12), (100, dI 12), (100, dI 12), (100, dI 12), (100, dI 12), (100, dI 12), (100, dI 12), (100, dI 12), (100, dI 12), (100, dI 12), (100, dI 12), (100, dI 12), (100, dI 12), (100, dI 12), (100, dI 12), (102, [.ref 210, .ref 211, .ref 212, .ref 213, .ref 214, .ref 215, .ref 216, .ref 217, .ref 218, .ref 219, .ref 220, .ref 221, .ref 222, .ref 223, .ref 224, .ref 225, .ref 226, .ref 227]), (100, dI 12), (100, dI 12), (100, dI 12), (100, dI 12), (100, dI 12), (100, dI 12), (100, dI 12), (100, dI 12), (100, dI 12), (100, dI 12), (100, dI 12), (100, dI 12), (100, dI 12), (100, dI 12), (100, dI 12), (100, dI 12), (100, dI 12), (100, dI 12), (102, [.ref 229, .ref 230, .ref 231, .ref 232, .ref 233, .ref 234, .ref 235, .ref 236, .ref 237, .ref 238, .ref 239, .ref 240, .ref 241, .ref 242, .ref 243, .ref 244, .ref 245, .ref 246]), (100, dI 12), (100, dI 12), (100, dI 12), (100, dI 12), (100, dI 12), (100, dI 12), (100, dI 12), (100, dI 12), (100, dI 12), (100, dI 12), (100, dI 12)]
def shI_4 : xH := [(100, dI 12), (100, dI 12), (100, dI 12), (100, dI 12), (100, dI 12), (100, dI 12), (100, dI 12), (103, [.ref 248, .ref 261, .ref 274, .ref 287, .ref 300, .ref 313, .ref 326, .ref 339, .ref 352, .ref 365, .ref 378, .ref 391, .ref 404, .ref 417, .ref 430, .ref 443, .ref 456, .ref 469]), (102, [.ref 249, .ref 250, .ref 251, .ref 252, .ref 253, .ref 254, .ref 255, .ref 256, .ref 257, .ref 258, .ref 259, .ref 260]), (100, dI 12), (100, dI 12), (100, dI 12), (100, dI 12), (100, dI 12), (100, dI 12), (100, dI 12), (100, dI 12), (100, dI 12), (100, dI 12), (100, dI 12), (100, dI 12), (102, [.ref 262, .ref 263, .ref 264, .ref 265, .ref 266, .ref 267, .ref 268, .ref 269, .ref 270, .ref 271, .ref 272, .ref 273]), (100, dI 12), (100, dI 12), (100, dI 12), (100, dI 12), (100, dI 12), (100, dI 12), (100, dI 12), (100, dI 12), (100, dI 12), (100, dI 12), (100, dI 12), (100, dI 12), (102, [.ref 275, .ref 276, .ref 277, .ref 278, .ref 279, .ref 280, .ref 281, .ref 282, .ref 283, .ref 284, .ref 285, .ref 286]), (100, dI 12), (100, dI 12), (100, dI 12), (100, dI 12), (100, dI 12), (100, dI 12), (100, dI 12), (100, dI 12), (100, dI 12), (100, dI 12), (100, dI 12), (100, dI 12), (102, [.ref 288, .ref 289, .ref 290, .ref 291, .ref 292, .ref 293, .ref 294, .ref 295, .ref 296, .ref 297, .ref 298, .ref 299]), (100, dI 12), (100, dI 12), (100, dI 12), (100, dI 12), (100, dI 12), (100, dI 12), (100, dI 12), (100, dI 12), (100, dI 12), (100, dI 12), (100, dI 12), (100, dI 12)]
def shI_5 : xH := [(102, [.ref 301, .ref 302, .ref 303, .ref 304, .ref 305, .ref 306, .ref 307, .ref 308, .ref 309, .ref 310, .ref 311, .ref 312]), (100, dI 12), (100, dI 12), (100, dI 12), (100, dI 12), (100, dI 12), (100, dI 12), (100, dI 12), (100, dI 12), (100, dI 12), (100, dI 12), (100, dI 12), (100, dI 12), (102, [.ref 314, .ref 315, .ref 316, .ref 317, .ref 318, .ref 319, .ref 320, .ref 321, .ref 322, .ref 323, .ref 324, .ref 325]), (100, dI 12), (100, dI 12), (100, dI 12), (100, dI 12), (100, dI 12), (100, dI 12), (100, dI 12), (100, dI 12), (100, dI 12), (100, dI 12), (100, dI 12), (100, dI 12), (102, [.ref 327, .ref 328, .ref 329, .ref 330, .ref 331, .ref 332, .ref 333, .ref 334, .ref 335, .ref 336, .ref 337, .ref 338]), (100, dI 12), (100, dI 12), (100, dI 12), (100, dI 12), (100, dI 12), (100, dI 12), (100, dI 12), (100, dI 12), (100, dI 12), (100, dI 12), (100, dI 12), (100, dI 12), (102, [.ref 340, .ref 341, .ref 342, .ref 343, .ref 344, .ref 345, .ref 346, .ref 347, .ref 348, .ref 349, .ref 350, .ref 351]), (100, dI 12), (100, dI 12), (100, dI 12), (100, dI 12), (100, dI 12), (100, dI 12), (100, dI 12), (100, dI 12), (100, dI 12), (100, dI 12), (100, dI 12), (100, dI 12), (102, [.ref 353, .ref 354, .ref 355, .ref 356, .ref 357, .ref 358, .ref 359, .ref 360, .ref 361, .ref 362, .ref 363, .ref 364]), (100, dI 12), (100, dI 12), (100, dI 12), (100, dI 12), (100, dI 12), (100, dI 12), (100, dI 12)]
def shI_6 : xH := [(100, dI 12), (100, dI 12), (100, dI 12), (100, dI 12), (100, dI 12), (102, [.ref 366, .ref 367, .ref 368, .ref 369, .ref 370, .ref 371, .ref 372, .ref 373, .ref 374, .ref 375, .ref 376, .ref 377]), (100, dI 12), (100, dI 12), (100, dI 12), (100, dI 12), (100, dI 12), (100, dI 12), (100, dI 12), (100, dI 12), (100, dI 12), (100, dI 12), (100, dI 12), (100, dI 12), (102, [.ref 379, .ref 380, .ref 381, .ref 382, .ref 383, .ref 384, .ref 385, .ref 386, .ref 387, .ref 388, .ref 389, .ref 390]), (100, dI 12), (100, dI 12), (100, dI 12), (100, dI 12), (100, dI 12), (100, dI 12), (100, dI 12), (100, dI 12), (100, dI 12), (100, dI 12), (100, dI 12), (100, dI 12), (102, [.ref 392, .ref 393, .ref 394, .ref 395, .ref 396, .ref 397, .ref 398, .ref 399, .ref 400, .ref 401, .ref 402, .ref 403]), (100, dI 12), (100, dI 12), (100, dI 12), (100, dI 12), (100, dI 12), (100, dI 12), (100, dI 12), (100, dI 12), (100, dI 12), (100, dI 12), (100, dI 12), (100, dI 12), (102, [.ref 405, .ref 406, .ref 407, .ref 408, .ref 409, .ref 410, .ref 411, .ref 412, .ref 413, .ref 414, .ref 415, .ref 416]), (100, dI 12), (100, dI 12), (100, dI 12), (100, dI 12), (100, dI 12), (100, dI 12), (100, dI 12), (100, dI 12), (100, dI 12), (100, dI 12), (100, dI 12), (100, dI 12), (102, [.ref 418, .ref 419, .ref 420, .ref 421, .ref 422, .ref 423, .ref 424, .ref 425, .ref 426, .ref 427, .ref 428, .ref 429]), (100, dI 12), (100, dI 12)]
def shI_7 : xH := [(100, dI 12), (100, dI 12), (100, dI 12), (100, dI 12), (100, dI 12), (100, dI 12), (100, dI 12), (100, dI 12), (100, dI 12), (100, dI 12), (102, [.ref 431, .ref 432, .ref 433, .ref 434, .ref 435, .ref 436, .ref 437, .ref 438, .ref 439, .ref 440, .ref 441, .ref 442]), (100, dI 12), (100, dI 12), (100, dI 12), (100, dI 12), (100, dI 12), (100, dI 12), (100, dI 12), (100, dI 12), (100, dI 12), (100, dI 12), (100, dI 12), (100, dI 12), (102, [.ref 444, .ref 445, .ref 446, .ref 447, .ref 448, .ref 449, .ref 450, .ref 451, .ref 452, .ref 453, .ref 454, .ref 455]), (100, dI 12), (100, dI 12), (100, dI 12), (100, dI 12), (100, dI 12), (100, dI 12), (100, dI 12), (100, dI 12), (100, dI 12), (100, dI 12), (100, dI 12), (100, dI 12), (102, [.ref 457, .ref 458, .ref 459, .ref 460, .ref 461, .ref 462, .ref 463, .ref 464, .ref 465, .ref 466, .ref 467, .ref 468]), (100, dI 12), (100, dI 12), (100, dI 12), (100, dI 12), (100, dI 12), (100, dI 12), (100, dI 12), (100, dI 12), (100, dI 12), (100, dI 12), (100, dI 12), (100, dI 12), (102, [.ref 470, .ref 471, .ref 472, .ref 473, .ref 474, .ref 475, .ref 476, .ref 477, .ref 478, .ref 479, .ref 480, .ref 481]), (100, dI 12), (100, dI 12), (100, dI 12), (100, dI 12), (100, dI 12), (100, dI 12), (100, dI 12), (100, dI 12), (100, dI 12), (100, dI 12)]
def shI_8 : xH := [(100, dI 12), (100, dI 12), (100, dI 12), (100, dI 24), (100, dI 12), (100, dI 12), (100, dI 12), (102, [.ref 488, .ref 489, .ref 490, .ref 491, .ref 492, .ref 493, .ref 494, .ref 495, .ref 496, .ref 497, .ref 498, .ref 499]), (100, dI 12), (100, dI 12), (100, dI 12), (100, dI 12), (100, dI 12), (100, dI 12), (100, dI 12), (100, dI 12), (100, dI 12), (100, dI 12), (100, dI 12), (100, dI 12), (100, dI 2), (100, dI 2), (101, dJ 4096), (101, dJ 4096), (102, [.ref 505, .ref 506, .ref 507, .ref 508, .ref 509, .ref 510, .ref 511, .ref 512, .ref 513, .ref 514, .ref 515, .ref 516, .ref 517]), (100, dI 4096), (100, dI 4096), (100, dI 4096), (100, dI 4096), (100, dI 4096), (100, dI 4096), (100, dI 4096), (100, dI 4096), (100, dI 4096), (100, dI 4096), (100, dI 4096), (100, dI 4096), (100, dI 4096), (104, [.ref 519, .ref 520, .ref 521, .ref 522, .ref 523, .ref 524, .ref 525, .ref 526, .ref 527, .ref 528, .ref 529, .ref 530, .ref 531]), (101, dJ 4096), (101, dJ 4096), (101, dJ 4096), (101, dJ 4096), (101, dJ 4096), (101, dJ 4096), (101, dJ 4096), (101, dJ 4096), (101, dJ 4096), (101, dJ 4096), (101, dJ 4096), (101, dJ 4096), (101, dJ 4096), (101, dJ 1)]
def shI : xH := shI_0 ++ (shI_1 ++ (shI_2 ++ (shI_3 ++ (shI_4 ++ (shI_5 ++ (shI_6 ++ (shI_7 ++ (shI_8
))))))))
abbrev MM : Type := (Nat → Nat → Int32) × (Nat → Nat → Int64)
def ov (μ : MM) (p i : Nat) (v : Value) : Value := match v with
  | .int _ => .int (μ.1 p i)
  | .long _ => .long (μ.2 p i)
  | w => w
def memV (μ : MM) (p : Nat) : Nat → List Value → List Value
  | _, [] => []
  | i, v :: t => ov μ p i v :: memV μ p (i + 1) t
def memF (μ : MM) : Nat → xH → xH
  | _, [] => []
  | p, c :: t => (c.1, memV μ p 0 c.2) :: memF μ (p + 1) t
def mS (sh : xH) (μ : MM) : xH := memF μ 0 sh
abbrev mem (μ : MM) : xH := mS shI μ
theorem memV_at (μ : MM) (p : Nat) : ∀ (l : List Value) (o i : Nat), (memV μ p o l)[i]? = l[i]?.map (ov μ p (o + i))
  | [], o, i => by simp [memV]
  | v :: t, o, 0 => by simp [memV]
  | v :: t, o, i + 1 => by
    rw [memV, List.getElem?_cons_succ, List.getElem?_cons_succ, memV_at μ p t (o + 1) i, show o + 1 + i = o + (i + 1) by omega]
theorem memV_len (μ : MM) (p : Nat) : ∀ (l : List Value) (o : Nat), (memV μ p o l).length = l.length
  | [], o => rfl
  | v :: t, o => by rw [memV, List.length_cons, memV_len μ p t, List.length_cons]
theorem memF_at (μ : MM) : ∀ (h : xH) (o k : Nat), (memF μ o h)[k]? = h[k]?.map fun c => (c.1, memV μ (o + k) 0 c.2)
  | [], o, k => by simp [memF]
  | c :: t, o, 0 => by simp [memF]
  | c :: t, o, k + 1 => by
    rw [memF, List.getElem?_cons_succ, List.getElem?_cons_succ, memF_at μ t (o + 1) k, show o + 1 + k = o + (k + 1) by omega]
theorem mem_at {sh : xH} (μ : MM) (k : Nat) : (mS sh μ)[k]? = sh[k]?.map fun c => (c.1, memV μ k 0 c.2) := by
  rw [mS, memF_at, Nat.zero_add]
theorem mem_get {sh : xH} {μ : MM} {k : Nat} {c : xC} (e : sh[k]? = some c) : (mS sh μ)[k]? = some (c.1, memV μ k 0 c.2) := by rw [mem_at, e]; rfl
def st (μ : MM) (a k : Nat) (v : Int32) : MM := (fun p i => if p = a ∧ i = k then v else μ.1 p i, μ.2)
def sj (μ : MM) (a k : Nat) (v : Int64) : MM := (μ.1, fun p i => if p = a ∧ i = k then v else μ.2 p i)
theorem memV_ext {μ ν : MM} {p q : Nat} {l : List Value} (h : ∀ i v, l[i]? = some v → ov μ p i v = ov ν q i v) : memV μ p 0 l = memV ν q 0 l := by
  apply List.ext_getElem?
  intro i
  rw [memV_at, memV_at, Nat.zero_add]
  cases e : l[i]? with
  | none => rfl
  | some v => exact congrArg some (h i v e)
theorem mem_st {sh : xH} {μ : MM} {a k c : Nat} {l : List Value} {v w : Int32} (e : sh[a]? = some (c, l)) (ek : l[k]? = some (.int w)) : (mS sh μ).set a (c, (memV μ a 0 l).set k (.int v)) = mS sh (st μ a k v) := by
  apply List.ext_getElem?
  intro q
  rw [List.getElem?_set, mem_at, mem_at]
  have hl : a < (mS sh μ).length := (List.getElem?_eq_some_iff.mp (mem_get (μ := μ) e)).1
  by_cases h : a = q
  · subst h
    rw [if_pos rfl, if_pos hl, e]
    refine congrArg some (Prod.ext rfl ?_)
    show (memV μ a 0 l).set k (.int v) = memV (st μ a k v) a 0 l
    apply List.ext_getElem?
    intro i
    rw [List.getElem?_set, memV_at, memV_at, Nat.zero_add, memV_len]
    by_cases hi : k = i
    · subst hi
      have hk : k < l.length := (List.getElem?_eq_some_iff.mp ek).1
      rw [if_pos rfl, if_pos hk, ek]
      simp [ov, st]
    · rw [if_neg hi]
      cases l[i]? with
      | none => rfl
      | some u =>
        refine congrArg some ?_
        cases u <;> simp [ov, st, Ne.symm hi]
  · rw [if_neg h]
    cases sh[q]? with
    | none => rfl
    | some d =>
      refine congrArg some (Prod.ext rfl (memV_ext fun i u _ => ?_))
      cases u <;> simp [ov, st, Ne.symm h]
theorem mem_sj {sh : xH} {μ : MM} {a k c : Nat} {l : List Value} {v w : Int64} (e : sh[a]? = some (c, l)) (ek : l[k]? = some (.long w)) : (mS sh μ).set a (c, (memV μ a 0 l).set k (.long v)) = mS sh (sj μ a k v) := by
  apply List.ext_getElem?
  intro q
  rw [List.getElem?_set, mem_at, mem_at]
  have hl : a < (mS sh μ).length := (List.getElem?_eq_some_iff.mp (mem_get (μ := μ) e)).1
  by_cases h : a = q
  · subst h
    rw [if_pos rfl, if_pos hl, e]
    refine congrArg some (Prod.ext rfl ?_)
    show (memV μ a 0 l).set k (.long v) = memV (sj μ a k v) a 0 l
    apply List.ext_getElem?
    intro i
    rw [List.getElem?_set, memV_at, memV_at, Nat.zero_add, memV_len]
    by_cases hi : k = i
    · subst hi
      have hk : k < l.length := (List.getElem?_eq_some_iff.mp ek).1
      rw [if_pos rfl, if_pos hk, ek]
      simp [ov, sj]
    · rw [if_neg hi]
      cases l[i]? with
      | none => rfl
      | some u =>
        refine congrArg some ?_
        cases u <;> simp [ov, sj, Ne.symm hi]
  · rw [if_neg h]
    cases sh[q]? with
    | none => rfl
    | some d =>
      refine congrArg some (Prod.ext rfl (memV_ext fun i u _ => ?_))
      cases u <;> simp [ov, sj, Ne.symm h]
/-! what the shape says of a place, by computation -/
def isInt (v : Value) : Bool := match v with | .int _ => true | _ => false
def isLong (v : Value) : Bool := match v with | .long _ => true | _ => false
def isRef (q : Nat) (v : Value) : Bool := match v with | .ref r => q == r | _ => false
def slot (sh : xH) (ci a k : Nat) (f : Value → Bool) : Bool := match sh[a]? with
  | some c => c.1 == ci && (match c.2[k]? with | some v => f v | none => false)
  | none => false
def isA (sh : xH) (t a n : Nat) (f : Value → Bool) : Bool := match sh[a]? with
  | some c => c.1 == t && c.2.length == n && c.2.all f
  | none => false
def isT (sh : xH) (ci a : Nat) : Bool := match sh[a]? with
  | some c => c.1 == ci
  | none => false
theorem slot_spec {sh : xH} {ci a k : Nat} {f : Value → Bool} (e : slot sh ci a k f = true) : ∃ l v, sh[a]? = some (ci, l) ∧ l[k]? = some v ∧ f v = true := by
  unfold slot at e
  split at e
  · rename_i c hc
    simp only [Bool.and_eq_true, beq_iff_eq] at e
    obtain ⟨e1, e2⟩ := e
    split at e2
    · rename_i v hv
      exact ⟨c.2, v, by rw [hc, ← e1], hv, e2⟩
    · cases e2
  · cases e
theorem isA_spec {sh : xH} {t a n : Nat} {f : Value → Bool} (e : isA sh t a n f = true) : ∃ l, sh[a]? = some (t, l) ∧ l.length = n ∧ ∀ k, k < n → ∃ v, l[k]? = some v ∧ f v = true := by
  unfold isA at e
  split at e
  · rename_i c hc
    simp only [Bool.and_eq_true, beq_iff_eq] at e
    obtain ⟨⟨e1, e2⟩, e3⟩ := e
    refine ⟨c.2, by rw [hc, ← e1], e2, fun k hk => ?_⟩
    have hk : k < c.2.length := by omega
    exact ⟨c.2[k], List.getElem?_eq_getElem hk, List.all_eq_true.mp e3 _ (List.getElem_mem hk)⟩
  · cases e
section MemOps
variable {sh : xH} {μ : MM} {ci a k : Nat}
theorem gI_m (e : slot sh ci a k isInt = true) : gI (mS sh μ) ci a k = some (μ.1 a k) := by
  obtain ⟨l, v, h1, h2, h3⟩ := slot_spec e
  unfold gI gf
  rw [mem_get h1]
  simp only [if_true, memV_at, h2]
  cases v <;> simp_all [isInt, ov]
theorem gJ_m (e : slot sh ci a k isLong = true) : gJ (mS sh μ) ci a k = some (μ.2 a k) := by
  obtain ⟨l, v, h1, h2, h3⟩ := slot_spec e
  unfold gJ gf
  rw [mem_get h1]
  simp only [if_true, memV_at, h2]
  cases v <;> simp_all [isLong, ov]
theorem gR_m {q : Nat} (e : slot sh ci a k (isRef q) = true) : gR (mS sh μ) ci a k = some q := by
  obtain ⟨l, v, h1, h2, h3⟩ := slot_spec e
  unfold gR gf
  rw [mem_get h1]
  simp only [if_true, memV_at, h2]
  cases v <;> simp_all [isRef, ov]
theorem pf_m {v : Value} {h' : xH} (e : ∃ l, sh[a]? = some (ci, l) ∧ k < l.length ∧ (mS sh μ).set a (ci, (memV μ a 0 l).set k v) = h') : pf (mS sh μ) ci a k v = some h' := by
  obtain ⟨l, h1, h2, h3⟩ := e
  unfold pf
  rw [mem_get h1]
  simp only [memV_len]
  rw [if_pos ⟨trivial, h2⟩, h3]
theorem pI_m {v : Int32} (e : slot sh ci a k isInt = true) : pI (mS sh μ) ci a k v = some (mS sh (st μ a k v)) := by
  obtain ⟨l, w, h1, h2, h3⟩ := slot_spec e
  refine pf_m ⟨l, h1, (List.getElem?_eq_some_iff.mp h2).1, ?_⟩
  cases w <;> simp [isInt] at h3
  exact mem_st h1 h2
theorem pZ_m {v : Int32} (e : slot sh ci a k isInt = true) (hv : v = 0 ∨ v = 1) : pZ (mS sh μ) ci a k v = some (mS sh (st μ a k v)) := by
  unfold pZ
  rw [if_pos hv]
  exact pI_m e
theorem pJ_m {v : Int64} (e : slot sh ci a k isLong = true) : pJ (mS sh μ) ci a k v = some (mS sh (sj μ a k v)) := by
  obtain ⟨l, w, h1, h2, h3⟩ := slot_spec e
  refine pf_m ⟨l, h1, (List.getElem?_eq_some_iff.mp h2).1, ?_⟩
  cases w <;> simp [isLong] at h3
  exact mem_sj h1 h2
theorem vc_m {β : Type} {o : Option β} (e : isT sh ci a = true) : vc (mS sh μ) ci a o = o := by
  unfold isT at e
  split at e
  · rename_i c hc
    unfold vc
    rw [mem_get hc]
    simp only
    rw [if_pos (by simpa using e)]
  · cases e
theorem ain_nat {k n : Nat} (hk : k < n) (hn : n ≤ 100000) : ain (Int32.ofNat k) n ∧ (Int32.ofNat k).toNatClampNeg = k := by
  have h1 : (Int32.ofNat k).toInt = k := Int32.toInt_ofNat_of_lt (by omega)
  have h2 : (Int32.ofNat k).toNatClampNeg = k := by
    show (Int32.ofNat k).toInt.toNat = k
    rw [h1]; rfl
  refine ⟨⟨?_, by rw [h2]; exact hk⟩, h2⟩
  rw [Int32.lt_iff_toInt_lt, h1]
  show ¬ ((k : Int) < 0)
  omega
theorem aI_k {n : Nat} (e : isA sh 100 a n isInt = true) (hk : k < n) (hn : n ≤ 100000) : aI (mS sh μ) a (Int32.ofNat k) = some (μ.1 a k) := by
  obtain ⟨l, h1, h2, h3⟩ := isA_spec e
  obtain ⟨a1, a2⟩ := ain_nat hk hn
  obtain ⟨v, h4, h5⟩ := h3 k hk
  unfold aI
  rw [mem_get h1]
  simp only [memV_len, h2]
  rw [if_pos ⟨trivial, a1⟩, a2, List.getD_eq_getElem?_getD, memV_at, h4, Nat.zero_add]
  cases v <;> simp_all [isInt, ov, vI]
theorem aJ_k {n : Nat} (e : isA sh 101 a n isLong = true) (hk : k < n) (hn : n ≤ 100000) : aJ (mS sh μ) a (Int32.ofNat k) = some (μ.2 a k) := by
  obtain ⟨l, h1, h2, h3⟩ := isA_spec e
  obtain ⟨a1, a2⟩ := ain_nat hk hn
  obtain ⟨v, h4, h5⟩ := h3 k hk
  unfold aJ
  rw [mem_get h1]
  simp only [memV_len, h2]
  rw [if_pos ⟨trivial, a1⟩, a2, List.getD_eq_getElem?_getD, memV_at, h4, Nat.zero_add]
  cases v <;> simp_all [isLong, ov, vJ]
theorem sI_k {n : Nat} {v : Int32} (e : isA sh 100 a n isInt = true) (hk : k < n) (hn : n ≤ 100000) : sI (mS sh μ) a (Int32.ofNat k) v = some (mS sh (st μ a k v)) := by
  obtain ⟨l, h1, h2, h3⟩ := isA_spec e
  obtain ⟨a1, a2⟩ := ain_nat hk hn
  obtain ⟨w, h4, h5⟩ := h3 k hk
  unfold sI
  rw [mem_get h1]
  simp only [memV_len, h2]
  rw [if_pos ⟨trivial, a1⟩, a2]
  cases w <;> simp [isInt] at h5
  exact congrArg some (mem_st h1 h4)
theorem sJ_k {n : Nat} {v : Int64} (e : isA sh 101 a n isLong = true) (hk : k < n) (hn : n ≤ 100000) : sJ (mS sh μ) a (Int32.ofNat k) v = some (mS sh (sj μ a k v)) := by
  obtain ⟨l, h1, h2, h3⟩ := isA_spec e
  obtain ⟨a1, a2⟩ := ain_nat hk hn
  obtain ⟨w, h4, h5⟩ := h3 k hk
  unfold sJ
  rw [mem_get h1]
  simp only [memV_len, h2]
  rw [if_pos ⟨trivial, a1⟩, a2]
  cases w <;> simp [isLong] at h5
  exact congrArg some (mem_sj h1 h4)
theorem aR_k {t q : Nat} (e : slot sh t a k (isRef q) = true) (hk : k < 100000) : aR t (mS sh μ) a (Int32.ofNat k) = some q := by
  obtain ⟨l, v, h1, h2, h3⟩ := slot_spec e
  have hl := (List.getElem?_eq_some_iff.mp h2).1
  have h9 : (Int32.ofNat k).toInt = k := Int32.toInt_ofNat_of_lt (by omega)
  have a2 : (Int32.ofNat k).toNatClampNeg = k := by
    show (Int32.ofNat k).toInt.toNat = k
    rw [h9]; rfl
  have a0 : ¬ Int32.ofNat k < 0 := by
    rw [Int32.lt_iff_toInt_lt, h9]
    show ¬ ((k : Int) < 0)
    omega
  unfold aR
  rw [mem_get h1]
  simp only [memV_len]
  rw [if_pos ⟨trivial, a0, by rw [a2]; exact hl⟩, a2, List.getD_eq_getElem?_getD, memV_at, h2]
  cases v <;> simp_all [isRef, ov]
end MemOps
/-! a heap of this shape is such a function -/
def shV : List Value → List Value → Bool
  | [], [] => true
  | .int _ :: a, .int _ :: b => shV a b
  | .long _ :: a, .long _ :: b => shV a b
  | .ref q :: a, .ref r :: b => q == r && shV a b
  | .null :: a, .null :: b => shV a b
  | _, _ => false
def shH : xH → xH → Bool
  | [], [] => true
  | c :: a, d :: b => c.1 == d.1 && shV c.2 d.2 && shH a b
  | _, _ => false
def muOf (h : xH) : MM := (fun p i => vI ((h.getD p (0, [])).2.getD i .null), fun p i => vJ ((h.getD p (0, [])).2.getD i .null))
theorem shV_spec {μ : MM} {p : Nat} : ∀ (a b : List Value) (o : Nat), shV a b = true → (∀ i v, a[i]? = some v → vI v = μ.1 p (o + i) ∧ vJ v = μ.2 p (o + i) ∨ isRef (match v with | .ref q => q | _ => 0) v = true ∨ v = .null ∨ (isInt v = true ∧ vI v = μ.1 p (o + i)) ∨ (isLong v = true ∧ vJ v = μ.2 p (o + i))) → a = memV μ p o b
  | [], [], o, _, _ => rfl
  | .int x :: a, .int y :: b, o, h, g => by
    rw [memV]
    have g0 := g 0 _ rfl
    rw [← shV_spec a b (o + 1) h (fun i v hi => by have := g (i + 1) v hi; rwa [show o + (i + 1) = o + 1 + i by omega] at this)]
    congr 1
    simp [isRef, isInt, isLong, vI, vJ] at g0
    simp only [ov]
    rcases g0 with ⟨g0, -⟩ | g0 <;> rw [g0]
  | .long x :: a, .long y :: b, o, h, g => by
    rw [memV]
    have g0 := g 0 _ rfl
    rw [← shV_spec a b (o + 1) h (fun i v hi => by have := g (i + 1) v hi; rwa [show o + (i + 1) = o + 1 + i by omega] at this)]
    congr 1
    simp [isRef, isInt, isLong, vI, vJ] at g0
    simp only [ov]
    rcases g0 with ⟨-, g0⟩ | g0 <;> rw [g0]
  | .ref q :: a, .ref r :: b, o, h, g => by
    simp only [shV, Bool.and_eq_true, beq_iff_eq] at h
    rw [memV, ← shV_spec a b (o + 1) h.2 (fun i v hi => by have := g (i + 1) v hi; rwa [show o + (i + 1) = o + 1 + i by omega] at this), h.1]
    rfl
  | .null :: a, .null :: b, o, h, g => by
    rw [memV, ← shV_spec a b (o + 1) h (fun i v hi => by have := g (i + 1) v hi; rwa [show o + (i + 1) = o + 1 + i by omega] at this)]
    rfl
theorem shH_spec (μ : MM) : ∀ (a b : xH) (o : Nat), shH a b = true → (∀ p c, a[p]? = some c → ∀ i v, c.2[i]? = some v → vI v = μ.1 (o + p) i ∧ vJ v = μ.2 (o + p) i) → a = memF μ o b
  | [], [], o, _, _ => rfl
  | c :: a, d :: b, o, h, g => by
    simp only [shH, Bool.and_eq_true, beq_iff_eq] at h
    obtain ⟨⟨h1, h2⟩, h3⟩ := h
    rw [memF, ← shH_spec μ a b (o + 1) h3 (fun p c hp i v hi => by have := g (p + 1) c hp i v hi; rwa [show o + (p + 1) = o + 1 + p by omega] at this)]
    congr 1
    refine Prod.ext h1 (shV_spec (μ := μ) (p := o) c.2 d.2 0 h2 (fun i v hi => Or.inl ?_))
    have := g 0 c rfl i v hi
    rwa [Nat.zero_add]
theorem mem_of {h : xH} (e : shH h shI = true) : h = mem (muOf h) := by
  refine shH_spec (muOf h) h shI 0 e (fun p c hp i v hi => ?_)
  rw [Nat.zero_add]
  have e1 : h.getD p (0, []) = c := by rw [List.getD_eq_getElem?_getD, hp]; rfl
  have e2 : c.2.getD i .null = v := by rw [List.getD_eq_getElem?_getD, hi]; rfl
  exact ⟨by show _ = vI ((h.getD p (0, [])).2.getD i .null); rw [e1, e2], by show _ = vJ ((h.getD p (0, [])).2.getD i .null); rw [e1, e2]⟩
