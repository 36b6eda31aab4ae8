/-! A QUOTIENT of two whole numbers, as doubles, is a number (its names stand in the rest of the library: this part comes first, so that a round meets them at once) -/
theorem ddiv_n {v w : Int32} (h : w ≠ 0) : vf_n64 (FP.ddiv (FP.i2d v) (FP.i2d w)) := by
  have h1 := Jvm.Free.Fl.i2d_fin v
  have h2 := Jvm.Free.Fl.i2d_fin w
  have h3 := Jvm.Free.Fl.i2d_nz h
  have h4 : Jvm.Free.Fl.NoNaN64 (FP.i2d v) := UInt64.le_of_lt h1
  exact Jvm.Free.Fl.ddiv_out h4 h2 h3
