/-! the class, out of claim whole -/
def F00 : Fl := mkF 0 0 0 0 (fun _ => 0) (fun _ => 0) (fun _ => 0) (fun _ _ => 0)
