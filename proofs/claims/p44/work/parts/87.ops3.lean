/-! OPERATIONS: print status -/
/-- from 0 on, 13 times what there is -/
def prn (M : Nat → Nat) : Nat → Int64
  | 0 => 0
  | n + 1 => prn M n * 13 + (eI (M n)).toInt64 + 1
section O6
variable {T : MM → Bk → Prop} {μ : MM} {A : AS}
end O6
