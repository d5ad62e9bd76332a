/-! ACTS: is -/
theorem wW_xor {B : Bk} {w : Nat} {th : Bool} (hw : w < 12) (q : hb (bw B) w = !th) : bw (wW B w th) = bw B ^^^ ((1 : Int32) <<< (Int32.ofNat w &&& 31)) := by
  apply hb_ext
  intro k hk
  rw [wW_hb hw, hb_xor, hb_bit k (by omega)]
  by_cases e : k = w
  · rw [if_pos e, e, q]; cases th <;> simp
  · rw [if_neg e]; simp [e]
theorem wT_xor {B : Bk} {t : Nat} {th : Bool} (ht : t < 12) (q : hb (bt B) t = !th) : bt (wT B t th) = bt B ^^^ ((1 : Int32) <<< (Int32.ofNat t &&& 31)) := by
  apply hb_ext
  intro k hk
  rw [wT_hb ht, hb_xor, hb_bit k (by omega)]
  by_cases e : k = t
  · rw [if_pos e, e, q]; cases th <;> simp
  · rw [if_neg e]; simp [e]
section Mr1
variable {μ : MM} {B : Bk}
end Mr1
section O10
variable {T : MM → Bk → Prop} {μ : MM} {A : AS}
end O10
