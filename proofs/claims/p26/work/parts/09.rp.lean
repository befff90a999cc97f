/-! which ends a method of this type may have -/
def mjrp (ret : Option FieldType) (i : Instr) : Bool := match i with
  | .dreturn => decide (ret = some .double)
  | .lreturn => decide (ret = some .long)
  | .areturn => (match ret with
    | some (.object _) => true
    | some (.array _) => true
    | _ => false)
  | .return_ => decide (ret = none)
  | _ => true
