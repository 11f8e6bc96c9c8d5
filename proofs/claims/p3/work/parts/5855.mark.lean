/-! which way a walk goes: a mark on it -/
section ZWC
def mkQ (_ : my_H) : Prop := True
theorem mkO {g : my_H} : mkQ g := trivial
theorem mkT {g g' : my_H} (_ : my_ag [] g g') (_ : mkQ g) : mkQ g' := trivial
end ZWC
