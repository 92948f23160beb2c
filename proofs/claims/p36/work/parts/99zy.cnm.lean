/-! THE BEGINNING: the ghost cells. -/
def F00 : FM := fun i j => if i = 0 ∧ j = 17 then -1 else 0
def F01 : FM := upF (upF (rwF F00 7 (zD 1100 (F00 7))) 0 19 0) 0 20 0
def mdF : FM := fTk F01 0 0
