/-! THE LAW'S START: all that is fixed there -/
def sRep : List (String × Nat) := [("PairKeeper", 342), ("PairKeeper", 349), ("PairKeeper$Reader", 52), ("PairKeeper$Reader", 66), ("PairKeeper$Reader", 77), ("PairKeeper$Reader", 85), ("PairKeeper$Reader", 90), ("PairKeeper$Reader", 95), ("PairKeeper$Reader", 100), ("PairKeeper$Reader", 127), ("PairKeeper$Reader", 129), ("PairKeeperLaw", 157), ("PairKeeperLaw", 167), ("PairKeeperLaw", 169), ("PairKeeperLaw", 174), ("PairKeeperLaw", 176), ("PairKeeperLaw", 178), ("PairKeeperLaw", 180), ("PairKeeperLaw", 193), ("PairKeeperLaw", 197), ("PairKeeperLaw", 199)]
def sTm (i : Nat) : Term := .string (sRep.getD i ("", 0)).1 (sRep.getD i ("", 0)).2
def gFL : List Cond := flatC (Jvm.Cond.and given_1 narrow_1)
theorem eqR {args : Array Value} {s : State} {t u : Term} {a b : Nat} (h : (Cond.eq t u).before args s = true) (ht : t.eval args s none [] s = some (.ref a)) (hu : u.eval args s none [] s = some (.ref b)) : a = b := by
  simpa [Cond.before, Cond.holds, Cond.value, ht, hu] using h
theorem s_ex : ∀ i, i < 21 → Cond.exactly (sTm i) "java/lang/String" ∈ gFL := by decide +kernel
theorem s_co : ∀ i, i < 21 → Cond.eq (.field (sTm i) "java/lang/String" "coder" "B") (.int 0) ∈ gFL := by decide +kernel
theorem s_ar : ∀ i, i < 21 → Cond.arrayOf (.field (sTm i) "java/lang/String" "value" "[B") .byte ∈ gFL := by decide +kernel
theorem s_le : ∀ i, i < 21 → Cond.eq (.length (.field (sTm i) "java/lang/String" "value" "[B")) (.int (Int32.ofNat (sLen.getD i 0))) ∈ gFL := by decide +kernel
def sEl : List (List Nat) := [[67, 68, 69, 70, 71, 72, 73, 74, 75, 76, 77, 78, 79, 80, 81, 82, 83, 84, 85, 86], [215, 216, 217, 218, 219, 220, 221, 222, 223, 224, 225, 226, 227, 228, 229, 230, 231, 232, 233, 234, 235, 236, 237, 238, 239, 240, 241, 242, 243, 244, 245, 246, 247, 248, 249], [91, 92, 93, 94, 95, 96, 97], [103, 104, 105, 106, 107], [114, 115, 116], [124, 125, 126, 127], [165, 166, 167, 168], [180, 181, 182, 183, 184, 185], [198, 199, 200, 201], [136, 137, 138, 139, 140, 141], [151, 152, 153, 154], [264, 265, 266, 267, 268, 269, 270, 271], [287, 288, 289, 290, 291, 292, 293], [310, 311], [329, 330, 331, 332], [351], [371], [392, 393, 394, 395, 396, 397, 398, 399, 400, 401, 402, 403], [425, 426, 427, 428, 429], [452, 453, 454, 455, 456, 457, 458], [482, 483, 484, 485, 486, 487, 488]]
theorem s_el_0 : ∀ j, j < sLen.getD 0 0 → gFL[(sEl.getD 0 []).getD j 0]? = some (Cond.eq (.elem (.field (sTm 0) "java/lang/String" "value" "[B") (.int (Int32.ofNat j))) (.int ((sByt.getD 0 []).getD j 0))) := by decide +kernel
theorem s_el_1 : ∀ j, j < sLen.getD 1 0 → gFL[(sEl.getD 1 []).getD j 0]? = some (Cond.eq (.elem (.field (sTm 1) "java/lang/String" "value" "[B") (.int (Int32.ofNat j))) (.int ((sByt.getD 1 []).getD j 0))) := by decide +kernel
theorem s_el_2 : ∀ j, j < sLen.getD 2 0 → gFL[(sEl.getD 2 []).getD j 0]? = some (Cond.eq (.elem (.field (sTm 2) "java/lang/String" "value" "[B") (.int (Int32.ofNat j))) (.int ((sByt.getD 2 []).getD j 0))) := by decide +kernel
theorem s_el_3 : ∀ j, j < sLen.getD 3 0 → gFL[(sEl.getD 3 []).getD j 0]? = some (Cond.eq (.elem (.field (sTm 3) "java/lang/String" "value" "[B") (.int (Int32.ofNat j))) (.int ((sByt.getD 3 []).getD j 0))) := by decide +kernel
theorem s_el_4 : ∀ j, j < sLen.getD 4 0 → gFL[(sEl.getD 4 []).getD j 0]? = some (Cond.eq (.elem (.field (sTm 4) "java/lang/String" "value" "[B") (.int (Int32.ofNat j))) (.int ((sByt.getD 4 []).getD j 0))) := by decide +kernel
theorem s_el_5 : ∀ j, j < sLen.getD 5 0 → gFL[(sEl.getD 5 []).getD j 0]? = some (Cond.eq (.elem (.field (sTm 5) "java/lang/String" "value" "[B") (.int (Int32.ofNat j))) (.int ((sByt.getD 5 []).getD j 0))) := by decide +kernel
theorem s_el_6 : ∀ j, j < sLen.getD 6 0 → gFL[(sEl.getD 6 []).getD j 0]? = some (Cond.eq (.elem (.field (sTm 6) "java/lang/String" "value" "[B") (.int (Int32.ofNat j))) (.int ((sByt.getD 6 []).getD j 0))) := by decide +kernel
theorem s_el_7 : ∀ j, j < sLen.getD 7 0 → gFL[(sEl.getD 7 []).getD j 0]? = some (Cond.eq (.elem (.field (sTm 7) "java/lang/String" "value" "[B") (.int (Int32.ofNat j))) (.int ((sByt.getD 7 []).getD j 0))) := by decide +kernel
theorem s_el_8 : ∀ j, j < sLen.getD 8 0 → gFL[(sEl.getD 8 []).getD j 0]? = some (Cond.eq (.elem (.field (sTm 8) "java/lang/String" "value" "[B") (.int (Int32.ofNat j))) (.int ((sByt.getD 8 []).getD j 0))) := by decide +kernel
theorem s_el_9 : ∀ j, j < sLen.getD 9 0 → gFL[(sEl.getD 9 []).getD j 0]? = some (Cond.eq (.elem (.field (sTm 9) "java/lang/String" "value" "[B") (.int (Int32.ofNat j))) (.int ((sByt.getD 9 []).getD j 0))) := by decide +kernel
theorem s_el_10 : ∀ j, j < sLen.getD 10 0 → gFL[(sEl.getD 10 []).getD j 0]? = some (Cond.eq (.elem (.field (sTm 10) "java/lang/String" "value" "[B") (.int (Int32.ofNat j))) (.int ((sByt.getD 10 []).getD j 0))) := by decide +kernel
theorem s_el_11 : ∀ j, j < sLen.getD 11 0 → gFL[(sEl.getD 11 []).getD j 0]? = some (Cond.eq (.elem (.field (sTm 11) "java/lang/String" "value" "[B") (.int (Int32.ofNat j))) (.int ((sByt.getD 11 []).getD j 0))) := by decide +kernel
theorem s_el_12 : ∀ j, j < sLen.getD 12 0 → gFL[(sEl.getD 12 []).getD j 0]? = some (Cond.eq (.elem (.field (sTm 12) "java/lang/String" "value" "[B") (.int (Int32.ofNat j))) (.int ((sByt.getD 12 []).getD j 0))) := by decide +kernel
theorem s_el_13 : ∀ j, j < sLen.getD 13 0 → gFL[(sEl.getD 13 []).getD j 0]? = some (Cond.eq (.elem (.field (sTm 13) "java/lang/String" "value" "[B") (.int (Int32.ofNat j))) (.int ((sByt.getD 13 []).getD j 0))) := by decide +kernel
theorem s_el_14 : ∀ j, j < sLen.getD 14 0 → gFL[(sEl.getD 14 []).getD j 0]? = some (Cond.eq (.elem (.field (sTm 14) "java/lang/String" "value" "[B") (.int (Int32.ofNat j))) (.int ((sByt.getD 14 []).getD j 0))) := by decide +kernel
theorem s_el_15 : ∀ j, j < sLen.getD 15 0 → gFL[(sEl.getD 15 []).getD j 0]? = some (Cond.eq (.elem (.field (sTm 15) "java/lang/String" "value" "[B") (.int (Int32.ofNat j))) (.int ((sByt.getD 15 []).getD j 0))) := by decide +kernel
theorem s_el_16 : ∀ j, j < sLen.getD 16 0 → gFL[(sEl.getD 16 []).getD j 0]? = some (Cond.eq (.elem (.field (sTm 16) "java/lang/String" "value" "[B") (.int (Int32.ofNat j))) (.int ((sByt.getD 16 []).getD j 0))) := by decide +kernel
theorem s_el_17 : ∀ j, j < sLen.getD 17 0 → gFL[(sEl.getD 17 []).getD j 0]? = some (Cond.eq (.elem (.field (sTm 17) "java/lang/String" "value" "[B") (.int (Int32.ofNat j))) (.int ((sByt.getD 17 []).getD j 0))) := by decide +kernel
theorem s_el_18 : ∀ j, j < sLen.getD 18 0 → gFL[(sEl.getD 18 []).getD j 0]? = some (Cond.eq (.elem (.field (sTm 18) "java/lang/String" "value" "[B") (.int (Int32.ofNat j))) (.int ((sByt.getD 18 []).getD j 0))) := by decide +kernel
theorem s_el_19 : ∀ j, j < sLen.getD 19 0 → gFL[(sEl.getD 19 []).getD j 0]? = some (Cond.eq (.elem (.field (sTm 19) "java/lang/String" "value" "[B") (.int (Int32.ofNat j))) (.int ((sByt.getD 19 []).getD j 0))) := by decide +kernel
theorem s_el_20 : ∀ j, j < sLen.getD 20 0 → gFL[(sEl.getD 20 []).getD j 0]? = some (Cond.eq (.elem (.field (sTm 20) "java/lang/String" "value" "[B") (.int (Int32.ofNat j))) (.int ((sByt.getD 20 []).getD j 0))) := by decide +kernel
theorem s_el : ∀ i, i < 21 → ∀ j, j < sLen.getD i 0 → Cond.eq (.elem (.field (sTm i) "java/lang/String" "value" "[B") (.int (Int32.ofNat j))) (.int ((sByt.getD i []).getD j 0)) ∈ gFL := by
  intro i hi j hj
  match i, hi, hj with
  | 0, _, hj => exact List.mem_of_getElem? (s_el_0 j hj)
  | 1, _, hj => exact List.mem_of_getElem? (s_el_1 j hj)
  | 2, _, hj => exact List.mem_of_getElem? (s_el_2 j hj)
  | 3, _, hj => exact List.mem_of_getElem? (s_el_3 j hj)
  | 4, _, hj => exact List.mem_of_getElem? (s_el_4 j hj)
  | 5, _, hj => exact List.mem_of_getElem? (s_el_5 j hj)
  | 6, _, hj => exact List.mem_of_getElem? (s_el_6 j hj)
  | 7, _, hj => exact List.mem_of_getElem? (s_el_7 j hj)
  | 8, _, hj => exact List.mem_of_getElem? (s_el_8 j hj)
  | 9, _, hj => exact List.mem_of_getElem? (s_el_9 j hj)
  | 10, _, hj => exact List.mem_of_getElem? (s_el_10 j hj)
  | 11, _, hj => exact List.mem_of_getElem? (s_el_11 j hj)
  | 12, _, hj => exact List.mem_of_getElem? (s_el_12 j hj)
  | 13, _, hj => exact List.mem_of_getElem? (s_el_13 j hj)
  | 14, _, hj => exact List.mem_of_getElem? (s_el_14 j hj)
  | 15, _, hj => exact List.mem_of_getElem? (s_el_15 j hj)
  | 16, _, hj => exact List.mem_of_getElem? (s_el_16 j hj)
  | 17, _, hj => exact List.mem_of_getElem? (s_el_17 j hj)
  | 18, _, hj => exact List.mem_of_getElem? (s_el_18 j hj)
  | 19, _, hj => exact List.mem_of_getElem? (s_el_19 j hj)
  | 20, _, hj => exact List.mem_of_getElem? (s_el_20 j hj)
def sNe : List (List Nat) := [[0, 250, 98, 108, 117, 128, 169, 186, 202, 142, 155, 272, 294, 312, 333, 352, 372, 404, 430, 459, 489], [250, 0, 251, 252, 253, 254, 257, 258, 259, 255, 256, 282, 304, 322, 343, 362, 382, 414, 440, 469, 499], [98, 251, 0, 109, 118, 129, 170, 187, 203, 143, 156, 273, 295, 313, 334, 353, 373, 405, 431, 460, 490], [108, 252, 109, 0, 119, 130, 171, 188, 204, 144, 157, 274, 296, 314, 335, 354, 374, 406, 432, 461, 491], [117, 253, 118, 119, 0, 131, 172, 189, 205, 145, 158, 275, 297, 315, 336, 355, 375, 407, 433, 462, 492], [128, 254, 129, 130, 131, 0, 173, 190, 206, 146, 159, 276, 298, 316, 337, 356, 376, 408, 434, 463, 493], [169, 257, 170, 171, 172, 173, 0, 193, 209, 174, 175, 279, 301, 319, 340, 359, 379, 411, 437, 466, 496], [186, 258, 187, 188, 189, 190, 193, 0, 210, 191, 192, 280, 302, 320, 341, 360, 380, 412, 438, 467, 497], [202, 259, 203, 204, 205, 206, 209, 210, 0, 207, 208, 281, 303, 321, 342, 361, 381, 413, 439, 468, 498], [142, 255, 143, 144, 145, 146, 174, 191, 207, 0, 160, 277, 299, 317, 338, 357, 377, 409, 435, 464, 494], [155, 256, 156, 157, 158, 159, 175, 192, 208, 160, 0, 278, 300, 318, 339, 358, 378, 410, 436, 465, 495], [272, 282, 273, 274, 275, 276, 279, 280, 281, 277, 278, 0, 305, 323, 344, 363, 383, 415, 441, 470, 500], [294, 304, 295, 296, 297, 298, 301, 302, 303, 299, 300, 305, 0, 324, 345, 364, 384, 416, 442, 471, 501], [312, 322, 313, 314, 315, 316, 319, 320, 321, 317, 318, 323, 324, 0, 346, 365, 385, 417, 443, 472, 502], [333, 343, 334, 335, 336, 337, 340, 341, 342, 338, 339, 344, 345, 346, 0, 366, 386, 418, 444, 473, 503], [352, 362, 353, 354, 355, 356, 359, 360, 361, 357, 358, 363, 364, 365, 366, 0, 387, 419, 445, 474, 504], [372, 382, 373, 374, 375, 376, 379, 380, 381, 377, 378, 383, 384, 385, 386, 387, 0, 420, 446, 475, 505], [404, 414, 405, 406, 407, 408, 411, 412, 413, 409, 410, 415, 416, 417, 418, 419, 420, 0, 447, 476, 506], [430, 440, 431, 432, 433, 434, 437, 438, 439, 435, 436, 441, 442, 443, 444, 445, 446, 447, 0, 477, 507], [459, 469, 460, 461, 462, 463, 466, 467, 468, 464, 465, 470, 471, 472, 473, 474, 475, 476, 477, 0, 508], [489, 499, 490, 491, 492, 493, 496, 497, 498, 494, 495, 500, 501, 502, 503, 504, 505, 506, 507, 508, 0]]
theorem s_ne_0 : ∀ j, j < 21 → 0 ≠ j → gFL[(sNe.getD 0 []).getD j 0]? = some (Cond.not (Cond.eq (sTm 0) (sTm j))) ∨ gFL[(sNe.getD 0 []).getD j 0]? = some (Cond.not (Cond.eq (sTm j) (sTm 0))) := by decide +kernel
theorem s_ne_1 : ∀ j, j < 21 → 1 ≠ j → gFL[(sNe.getD 1 []).getD j 0]? = some (Cond.not (Cond.eq (sTm 1) (sTm j))) ∨ gFL[(sNe.getD 1 []).getD j 0]? = some (Cond.not (Cond.eq (sTm j) (sTm 1))) := by decide +kernel
theorem s_ne_2 : ∀ j, j < 21 → 2 ≠ j → gFL[(sNe.getD 2 []).getD j 0]? = some (Cond.not (Cond.eq (sTm 2) (sTm j))) ∨ gFL[(sNe.getD 2 []).getD j 0]? = some (Cond.not (Cond.eq (sTm j) (sTm 2))) := by decide +kernel
theorem s_ne_3 : ∀ j, j < 21 → 3 ≠ j → gFL[(sNe.getD 3 []).getD j 0]? = some (Cond.not (Cond.eq (sTm 3) (sTm j))) ∨ gFL[(sNe.getD 3 []).getD j 0]? = some (Cond.not (Cond.eq (sTm j) (sTm 3))) := by decide +kernel
theorem s_ne_4 : ∀ j, j < 21 → 4 ≠ j → gFL[(sNe.getD 4 []).getD j 0]? = some (Cond.not (Cond.eq (sTm 4) (sTm j))) ∨ gFL[(sNe.getD 4 []).getD j 0]? = some (Cond.not (Cond.eq (sTm j) (sTm 4))) := by decide +kernel
theorem s_ne_5 : ∀ j, j < 21 → 5 ≠ j → gFL[(sNe.getD 5 []).getD j 0]? = some (Cond.not (Cond.eq (sTm 5) (sTm j))) ∨ gFL[(sNe.getD 5 []).getD j 0]? = some (Cond.not (Cond.eq (sTm j) (sTm 5))) := by decide +kernel
theorem s_ne_6 : ∀ j, j < 21 → 6 ≠ j → gFL[(sNe.getD 6 []).getD j 0]? = some (Cond.not (Cond.eq (sTm 6) (sTm j))) ∨ gFL[(sNe.getD 6 []).getD j 0]? = some (Cond.not (Cond.eq (sTm j) (sTm 6))) := by decide +kernel
theorem s_ne_7 : ∀ j, j < 21 → 7 ≠ j → gFL[(sNe.getD 7 []).getD j 0]? = some (Cond.not (Cond.eq (sTm 7) (sTm j))) ∨ gFL[(sNe.getD 7 []).getD j 0]? = some (Cond.not (Cond.eq (sTm j) (sTm 7))) := by decide +kernel
theorem s_ne_8 : ∀ j, j < 21 → 8 ≠ j → gFL[(sNe.getD 8 []).getD j 0]? = some (Cond.not (Cond.eq (sTm 8) (sTm j))) ∨ gFL[(sNe.getD 8 []).getD j 0]? = some (Cond.not (Cond.eq (sTm j) (sTm 8))) := by decide +kernel
theorem s_ne_9 : ∀ j, j < 21 → 9 ≠ j → gFL[(sNe.getD 9 []).getD j 0]? = some (Cond.not (Cond.eq (sTm 9) (sTm j))) ∨ gFL[(sNe.getD 9 []).getD j 0]? = some (Cond.not (Cond.eq (sTm j) (sTm 9))) := by decide +kernel
theorem s_ne_10 : ∀ j, j < 21 → 10 ≠ j → gFL[(sNe.getD 10 []).getD j 0]? = some (Cond.not (Cond.eq (sTm 10) (sTm j))) ∨ gFL[(sNe.getD 10 []).getD j 0]? = some (Cond.not (Cond.eq (sTm j) (sTm 10))) := by decide +kernel
theorem s_ne_11 : ∀ j, j < 21 → 11 ≠ j → gFL[(sNe.getD 11 []).getD j 0]? = some (Cond.not (Cond.eq (sTm 11) (sTm j))) ∨ gFL[(sNe.getD 11 []).getD j 0]? = some (Cond.not (Cond.eq (sTm j) (sTm 11))) := by decide +kernel
theorem s_ne_12 : ∀ j, j < 21 → 12 ≠ j → gFL[(sNe.getD 12 []).getD j 0]? = some (Cond.not (Cond.eq (sTm 12) (sTm j))) ∨ gFL[(sNe.getD 12 []).getD j 0]? = some (Cond.not (Cond.eq (sTm j) (sTm 12))) := by decide +kernel
theorem s_ne_13 : ∀ j, j < 21 → 13 ≠ j → gFL[(sNe.getD 13 []).getD j 0]? = some (Cond.not (Cond.eq (sTm 13) (sTm j))) ∨ gFL[(sNe.getD 13 []).getD j 0]? = some (Cond.not (Cond.eq (sTm j) (sTm 13))) := by decide +kernel
theorem s_ne_14 : ∀ j, j < 21 → 14 ≠ j → gFL[(sNe.getD 14 []).getD j 0]? = some (Cond.not (Cond.eq (sTm 14) (sTm j))) ∨ gFL[(sNe.getD 14 []).getD j 0]? = some (Cond.not (Cond.eq (sTm j) (sTm 14))) := by decide +kernel
theorem s_ne_15 : ∀ j, j < 21 → 15 ≠ j → gFL[(sNe.getD 15 []).getD j 0]? = some (Cond.not (Cond.eq (sTm 15) (sTm j))) ∨ gFL[(sNe.getD 15 []).getD j 0]? = some (Cond.not (Cond.eq (sTm j) (sTm 15))) := by decide +kernel
theorem s_ne_16 : ∀ j, j < 21 → 16 ≠ j → gFL[(sNe.getD 16 []).getD j 0]? = some (Cond.not (Cond.eq (sTm 16) (sTm j))) ∨ gFL[(sNe.getD 16 []).getD j 0]? = some (Cond.not (Cond.eq (sTm j) (sTm 16))) := by decide +kernel
theorem s_ne_17 : ∀ j, j < 21 → 17 ≠ j → gFL[(sNe.getD 17 []).getD j 0]? = some (Cond.not (Cond.eq (sTm 17) (sTm j))) ∨ gFL[(sNe.getD 17 []).getD j 0]? = some (Cond.not (Cond.eq (sTm j) (sTm 17))) := by decide +kernel
theorem s_ne_18 : ∀ j, j < 21 → 18 ≠ j → gFL[(sNe.getD 18 []).getD j 0]? = some (Cond.not (Cond.eq (sTm 18) (sTm j))) ∨ gFL[(sNe.getD 18 []).getD j 0]? = some (Cond.not (Cond.eq (sTm j) (sTm 18))) := by decide +kernel
theorem s_ne_19 : ∀ j, j < 21 → 19 ≠ j → gFL[(sNe.getD 19 []).getD j 0]? = some (Cond.not (Cond.eq (sTm 19) (sTm j))) ∨ gFL[(sNe.getD 19 []).getD j 0]? = some (Cond.not (Cond.eq (sTm j) (sTm 19))) := by decide +kernel
theorem s_ne_20 : ∀ j, j < 21 → 20 ≠ j → gFL[(sNe.getD 20 []).getD j 0]? = some (Cond.not (Cond.eq (sTm 20) (sTm j))) ∨ gFL[(sNe.getD 20 []).getD j 0]? = some (Cond.not (Cond.eq (sTm j) (sTm 20))) := by decide +kernel
theorem s_ne : ∀ i, i < 21 → ∀ j, j < 21 → i ≠ j → Cond.not (Cond.eq (sTm i) (sTm j)) ∈ gFL ∨ Cond.not (Cond.eq (sTm j) (sTm i)) ∈ gFL := by
  intro i hi j hj hn
  match i, hi, hn with
  | 0, _, hn => exact (s_ne_0 j hj hn).imp List.mem_of_getElem? List.mem_of_getElem?
  | 1, _, hn => exact (s_ne_1 j hj hn).imp List.mem_of_getElem? List.mem_of_getElem?
  | 2, _, hn => exact (s_ne_2 j hj hn).imp List.mem_of_getElem? List.mem_of_getElem?
  | 3, _, hn => exact (s_ne_3 j hj hn).imp List.mem_of_getElem? List.mem_of_getElem?
  | 4, _, hn => exact (s_ne_4 j hj hn).imp List.mem_of_getElem? List.mem_of_getElem?
  | 5, _, hn => exact (s_ne_5 j hj hn).imp List.mem_of_getElem? List.mem_of_getElem?
  | 6, _, hn => exact (s_ne_6 j hj hn).imp List.mem_of_getElem? List.mem_of_getElem?
  | 7, _, hn => exact (s_ne_7 j hj hn).imp List.mem_of_getElem? List.mem_of_getElem?
  | 8, _, hn => exact (s_ne_8 j hj hn).imp List.mem_of_getElem? List.mem_of_getElem?
  | 9, _, hn => exact (s_ne_9 j hj hn).imp List.mem_of_getElem? List.mem_of_getElem?
  | 10, _, hn => exact (s_ne_10 j hj hn).imp List.mem_of_getElem? List.mem_of_getElem?
  | 11, _, hn => exact (s_ne_11 j hj hn).imp List.mem_of_getElem? List.mem_of_getElem?
  | 12, _, hn => exact (s_ne_12 j hj hn).imp List.mem_of_getElem? List.mem_of_getElem?
  | 13, _, hn => exact (s_ne_13 j hj hn).imp List.mem_of_getElem? List.mem_of_getElem?
  | 14, _, hn => exact (s_ne_14 j hj hn).imp List.mem_of_getElem? List.mem_of_getElem?
  | 15, _, hn => exact (s_ne_15 j hj hn).imp List.mem_of_getElem? List.mem_of_getElem?
  | 16, _, hn => exact (s_ne_16 j hj hn).imp List.mem_of_getElem? List.mem_of_getElem?
  | 17, _, hn => exact (s_ne_17 j hj hn).imp List.mem_of_getElem? List.mem_of_getElem?
  | 18, _, hn => exact (s_ne_18 j hj hn).imp List.mem_of_getElem? List.mem_of_getElem?
  | 19, _, hn => exact (s_ne_19 j hj hn).imp List.mem_of_getElem? List.mem_of_getElem?
  | 20, _, hn => exact (s_ne_20 j hj hn).imp List.mem_of_getElem? List.mem_of_getElem?
  | i + 21, hi, _ => exact absurd hi (Nat.not_lt.mpr (Nat.le_add_left 21 i))
/-- each constant of a pool: the same text as the first with it -/
theorem s_con : ∀ q ∈ sCon, q.2.2.2 < 21 ∧ Cond.stringRef q.1 q.2.1 q.2.2.1 ∈ lw_tbl ∧ ((Term.string q.1 q.2.1 = sTm q.2.2.2) ∨ (Cond.exactly (.string q.1 q.2.1) "java/lang/String" ∈ gFL ∧ Cond.eq (sTm q.2.2.2) (.string q.1 q.2.1) ∈ gFL)) := by decide +kernel
theorem u_all {ci : Nat} {C : String} {T : u_T} {N : Nat} {ty : Nat → FieldType} {s : State} {args : Array Value} (hts : ∀ w ∈ lw_tbl, w.before args s = true) (k : xCls ci C T N ty) (i : Cond.instantiable C N ∈ lw_gd) : ∃ z : ClassId × (Nat → Nat), u_Kn s C T N z.1 z.2 := by
  obtain ⟨cC, iS, h⟩ := u_known (n := N) hts (fun w hw => (List.mem_filter.mp (k.2.1 w hw)).1) (hts _ (List.mem_filter.mp i).1)
  exact ⟨(cC, iS), h⟩
theorem u_exc {C : String} {n : Nat} {s : State} {args : Array Value} (hts : ∀ w ∈ lw_tbl, w.before args s = true) (i : Cond.instantiable C n ∈ lw_tbl) : ∃ z : ClassId × (Nat → Nat), u_Kn s C tE 0 z.1 z.2 := by
  obtain ⟨cC, iS, h⟩ := u_known (n := n) (T := tE) (N := 0) hts (fun w hw => by simp [u_ws] at hw) (hts _ i)
  exact ⟨(cC, iS), h⟩
theorem start_D {s : State} {args : Array Value} (hts : ∀ w ∈ lw_tbl, w.before args s = true) : ∃ D : va_G, ∀ (c : Nat) (q : vw_C), vwCl[c]? = some q → u_Kn s q.1 q.2.1 q.2.2 (D.1 c) (D.2 c) := by
  have h : ∀ c : Nat, ∃ z : ClassId × (Nat → Nat), ∀ q : vw_C, vwCl[c]? = some q → u_Kn s q.1 q.2.1 q.2.2 z.1 z.2 := by
    intro c
    match c with
    | 0 => obtain ⟨z, hz⟩ := u_all hts kc_X0 (gdm 139 (by decide +kernel) rfl); exact ⟨z, fun q hq => by cases hq; exact hz⟩
    | 1 => obtain ⟨z, hz⟩ := u_all hts kc_X1 (gdm 418 (by decide +kernel) rfl); exact ⟨z, fun q hq => by cases hq; exact hz⟩
    | 2 => obtain ⟨z, hz⟩ := u_all hts kc_X2 (gdm 219 (by decide +kernel) rfl); exact ⟨z, fun q hq => by cases hq; exact hz⟩
    | 3 => obtain ⟨z, hz⟩ := u_all hts kc_X3 (gdm 145 (by decide +kernel) rfl); exact ⟨z, fun q hq => by cases hq; exact hz⟩
    | 4 => obtain ⟨z, hz⟩ := u_all hts kc_X4 (gdm 345 (by decide +kernel) rfl); exact ⟨z, fun q hq => by cases hq; exact hz⟩
    | 5 => obtain ⟨z, hz⟩ := u_all hts kc_X5 (gdm 319 (by decide +kernel) rfl); exact ⟨z, fun q hq => by cases hq; exact hz⟩
    | 6 => obtain ⟨z, hz⟩ := u_all hts kc_X6 (gdm 239 (by decide +kernel) rfl); exact ⟨z, fun q hq => by cases hq; exact hz⟩
    | 7 => obtain ⟨z, hz⟩ := u_all hts kc_X7 (gdm 271 (by decide +kernel) rfl); exact ⟨z, fun q hq => by cases hq; exact hz⟩
    | 8 => obtain ⟨z, hz⟩ := u_all hts kc_X8 (gdm 383 (by decide +kernel) rfl); exact ⟨z, fun q hq => by cases hq; exact hz⟩
    | 9 => obtain ⟨z, hz⟩ := u_all hts kc_X9 (gdm 131 (by decide +kernel) rfl); exact ⟨z, fun q hq => by cases hq; exact hz⟩
    | 10 => obtain ⟨z, hz⟩ := u_all hts kc_X10 (gdm 545 (by decide +kernel) rfl); exact ⟨z, fun q hq => by cases hq; exact hz⟩
    | 11 => obtain ⟨z, hz⟩ := u_exc (C := "java/lang/IllegalArgumentException") (n := 6) hts (List.mem_of_getElem? (i := 645) (by decide +kernel)); exact ⟨z, fun q hq => by cases hq; exact hz⟩
    | 12 => obtain ⟨z, hz⟩ := u_exc (C := "java/util/NoSuchElementException") (n := 6) hts (List.mem_of_getElem? (i := 991) (by decide +kernel)); exact ⟨z, fun q hq => by cases hq; exact hz⟩
    | c + 13 => exact ⟨(default, fun _ => 0), fun q hq => by have := (List.getElem?_eq_some_iff.mp hq).1; exact absurd this (Nat.not_lt.mpr (Nat.le_add_left 13 c))⟩
  obtain ⟨f, hf⟩ := Classical.axiomOfChoice h
  exact ⟨(fun c => (f c).1, fun c => (f c).2), hf⟩
theorem start_T {s : State} {args : Array Value} (hts : ∀ w ∈ lw_tbl, w.before args s = true) : ∃ t : Nat → ClassId, ∀ (k : Nat) (q : ClassId × FieldType), ([(t 0, .int), (t 1, .long), (t 2, .array .int), (t 3, .object "PairKeeperLaw$Book"), (t 4, .array .int), (t 5, .object "PairKeeper$Book")] : List (ClassId × FieldType))[k]? = some q → ArrOfT s q.1 q.2 ∧ va_RA s q.1 q.2 := by
  obtain ⟨c0, k0, p0, h01, h02, h03⟩ := Cond.arrayClass_spec (hts (.arrayClass .int) (List.mem_of_getElem? (i := 161) (by decide +kernel)))
  obtain ⟨c1, k1, p1, h11, h12, h13⟩ := Cond.arrayClass_spec (hts (.arrayClass .long) (List.mem_of_getElem? (i := 416) (by decide +kernel)))
  obtain ⟨p2, c2, k2, -, h22, h23, h21⟩ := Cond.arrayOver_specA (hts (.arrayOver (.array .int)) (List.mem_of_getElem? (i := 551) (by decide +kernel)))
  obtain ⟨p3, c3, k3, h30, -, h32, h33, h31⟩ := Cond.arrayOver_spec (hts (.arrayOver (.object "PairKeeperLaw$Book")) (List.mem_of_getElem? (i := 1526) (by decide +kernel)))
  obtain ⟨p5, c5, k5, h50, -, h52, h53, h51⟩ := Cond.arrayOver_spec (hts (.arrayOver (.object "PairKeeper$Book")) (List.mem_of_getElem? (i := 225) (by decide +kernel)))
  refine ⟨fun k => match k with | 0 => c0 | 1 => c1 | 2 => c2 | 3 => c3 | 4 => c2 | _ => c5, fun k q hq => ?_⟩
  match k, hq with
  | 0, hq => cases hq; exact ⟨fun n z => ⟨fun k h => (by cases h), k0, h02, p0, h03⟩, h01⟩
  | 1, hq => cases hq; exact ⟨fun n z => ⟨fun k h => (by cases h), k1, h12, p1, h13⟩, h11⟩
  | 2, hq => cases hq; exact ⟨fun n z => ⟨fun k h => (by cases h), k2, h22, p2, h23⟩, h21⟩
  | 3, hq => cases hq; exact ⟨fun n z => ⟨fun k h => (by cases h), k3, h32, p3, h33⟩, k3, p3, h32, h33, h30, h31⟩
  | 4, hq => cases hq; exact ⟨fun n z => ⟨fun k h => (by cases h), k2, h22, p2, h23⟩, h21⟩
  | 5, hq => cases hq; exact ⟨fun n z => ⟨fun k h => (by cases h), k5, h52, p5, h53⟩, k5, p5, h52, h53, h50, h51⟩
  | k + 6, hq => exact absurd (List.getElem?_eq_some_iff.mp hq).1 (Nat.not_lt.mpr (Nat.le_add_left 6 k))
theorem start_KK {s : State} {b L : Nat} {xs : Nat → Int32} (l : Launch) (hflags : l.flags = flags0) (hL : L ≤ 260) (hts : ∀ w ∈ lw_tbl, w.before #[Value.ref b] s = true) (hX : va_X b L xs s s.heap) (hbl : b < s.heap.size) (hgv : (Jvm.Cond.and given_1 narrow_1).before #[Value.ref b] s = true) :
    ∃ g : xG, gl g = l ∧ gB g = s.heap.size ∧ gS g 0 = b ∧ gX g = (List.range L).map xs ∧ KK g s := by
  have hs : ∀ w ∈ gFL, w.before #[Value.ref b] s = true := flat_of_before _ hgv
  have hA : ∀ a : Nat, a < s.heap.size → ¬ (s.heap.size ≤ a) := fun a h => Nat.not_le.mpr h
  obtain ⟨D, hD⟩ := start_D hts
  obtain ⟨t, ht⟩ := start_T hts
  obtain ⟨adK, adV, hV, hE⟩ := vk_Sof (args := #[Value.ref b]) (s := s) (N := 21) (tm := sTm) (len := sLen) (byt := sByt) (A := fun q => s.heap.size ≤ q) (by decide +kernel) (fun i hi => hs _ (s_ex i hi)) (fun i hi => hs _ (s_co i hi)) (fun i hi => hs _ (s_ar i hi)) (fun i hi => hs _ (s_le i hi)) (fun i hi j hj => hs _ (s_el i hi j hj)) (fun i j hi hj hn => (s_ne i hi j hj hn).imp (hs _) (hs _)) hA
  have hF : ∃ z : Nat, va_Z "jdk/internal/util/Preconditions" "SIOOBE_FORMATTER" "Ljava/util/function/BiFunction;" .null (fun q => s.heap.size ≤ q) s s.heap ∨ va_Z "jdk/internal/util/Preconditions" "SIOOBE_FORMATTER" "Ljava/util/function/BiFunction;" (.ref z) (fun q => s.heap.size ≤ q) s s.heap := by
    rcases va_Zqof (A := fun q => s.heap.size ≤ q) (hts (.laysStatic "jdk/internal/util/Preconditions" "SIOOBE_FORMATTER" "Ljava/util/function/BiFunction;") (List.mem_of_getElem? (i := 765) (by decide +kernel))) (hts (.initialized "jdk/internal/util/Preconditions") (List.mem_of_getElem? (i := 120) (by decide +kernel))) (hs _ (by decide +kernel)) hA with h | ⟨z, h⟩
    · exact ⟨0, Or.inl h⟩
    · exact ⟨z, Or.inr h⟩
  obtain ⟨z, hF⟩ := hF
  refine ⟨(l, s.heap.size, (fun k => if k = 0 then b else if k ≤ 100 then adK (k - 1) else if k < 200 then adV (k - 101) else z), D.1, D.2, t, (List.range L).map xs), rfl, rfl, rfl, rfl, ?_⟩
  generalize hg : ((l, s.heap.size, (fun k => if k = 0 then b else if k ≤ 100 then adK (k - 1) else if k < 200 then adV (k - 101) else z), D.1, D.2, t, (List.range L).map xs) : xG) = g
  have gK : ∀ i : Nat, i < 21 → gS g (1 + i) = adK i := fun i hi => by
    rw [← hg]
    show (if 1 + i = 0 then b else if 1 + i ≤ 100 then adK (1 + i - 1) else _) = _
    rw [if_neg (by omega), if_pos (by omega), show 1 + i - 1 = i by omega]
  have gV : ∀ i : Nat, i < 21 → gS g (101 + i) = adV i := fun i hi => by
    rw [← hg]
    show (if 101 + i = 0 then b else if 101 + i ≤ 100 then adK (101 + i - 1) else if 101 + i < 200 then adV (101 + i - 101) else z) = _
    rw [if_neg (by omega), if_neg (by omega), if_pos (by omega), show 101 + i - 101 = i by omega]
  have gZ : gS g 200 = z := by rw [← hg]; rfl
  have gA' : gA g = fun q => s.heap.size ≤ q := by rw [← hg]; rfl
  have gD' : gD g = D := by rw [← hg]; rfl
  have gT' : gT g = t := by rw [← hg]; rfl
  have gX' : gX g = (List.range L).map xs := by rw [← hg]; rfl
  have gl' : gl g = l := by rw [← hg]; rfl
  have g0 : gS g 0 = b := by rw [← hg]; rfl
  refine ⟨⟨⟨?_, ?_⟩, ?_, ?_, ?_, ?_⟩, ⟨?_, ?_, ?_, ?_, ?_, ?_⟩, ?_⟩
  · intro c q hq
    rw [gD']
    exact hD c q hq
  · intro k q hq
    unfold tysG at hq
    rw [gT'] at hq
    exact ht k q hq
  · intro w hw
    exact va_Nw.of (nw_tabs (List.mem_filter.mp hw).2) (hts w (List.mem_filter.mp hw).1)
  · intro q hq
    obtain ⟨q1, q2, q3⟩ := s_con q hq
    rw [gK _ q1]
    refine vk_R.of (A := #[Value.ref b]) (hts _ q2) ?_
    rcases q3 with q3 | ⟨q3, q4⟩
    · rw [q3]; exact hE _ q1
    · obtain ⟨a, c, cA, kA, r1, -⟩ := Cond.exactly_spec (args := #[Value.ref b]) (first := s) (o := none) (s := s) (idx := []) (t := .string q.1 q.2.1) (cls := "java/lang/String") (hs _ q3)
      rw [r1, eqR (hs _ q4) (hE _ q1) r1]
  · intro ty hty
    simp only [kAO, List.mem_cons, List.not_mem_nil, or_false] at hty
    rcases hty with rfl | rfl | rfl
    · exact hts (.arrayOver (.array .int)) (List.mem_of_getElem? (i := 551) (by decide +kernel))
    · exact hts (.arrayOver (.object "PairKeeperLaw$Book")) (List.mem_of_getElem? (i := 1526) (by decide +kernel))
    · exact hts (.arrayOver (.object "PairKeeper$Book")) (List.mem_of_getElem? (i := 225) (by decide +kernel))
  · exact va_Nc.of (args := #[Value.ref b]) (hs _ (by decide +kernel))
  · intro i hi
    have hi : i < 21 := hi
    rw [gK i hi, gV i hi, gA']
    exact hV.1 i hi
  · obtain ⟨cell, h1, h2, h3, h4, h5⟩ := hX
    refine ⟨cell, by rw [g0]; exact h1, h2, h3, ?_, ?_, ?_, ?_⟩
    · rw [gX', List.length_map, List.length_range, h4]; exact Nat.le_refl _
    · rw [gX', List.length_map, List.length_range, h4]
    · intro j hj
      rw [gX', List.length_map, List.length_range] at hj
      rw [h5 j hj, gX']
      simp [List.getD_eq_getElem?_getD, hj]
    · rw [gA', g0]; exact hA b hbl
  · rw [gA']
    exact vx_Zqof (hts (.laysStatic Bundle.tN "UNASSIGNED_STACK" Bundle.steD) (List.mem_of_getElem? (i := 671) (by decide +kernel))) (hts (.initialized Bundle.tN) (List.mem_of_getElem? (i := 122) (by decide +kernel))) (hs _ (by decide +kernel)) hA
  · rw [gA']
    exact vx_Zqof (hts (.laysStatic Bundle.tN "SUPPRESSED_SENTINEL" Bundle.listD) (List.mem_of_getElem? (i := 673) (by decide +kernel))) (hts (.initialized Bundle.tN) (List.mem_of_getElem? (i := 122) (by decide +kernel))) (hs _ (by decide +kernel)) hA
  · rw [gA']
    exact va_Zof (hts (.laysStatic "java/lang/String" "COMPACT_STRINGS" "Z") (List.mem_of_getElem? (i := 749) (by decide +kernel))) (hts (.initialized "java/lang/String") (List.mem_of_getElem? (i := 118) (by decide +kernel))) (va_eqi (hs _ (by decide +kernel))) hA
  · unfold kForm
    rw [gA', gZ]
    exact hF
  · rw [gl']
    unfold Launch.stackTraces
    rw [hflags]
    decide +kernel
