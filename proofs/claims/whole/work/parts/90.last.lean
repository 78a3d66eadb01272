theorem wn_dummy : True := trivial
