theorem tt_dummy : True := trivial
