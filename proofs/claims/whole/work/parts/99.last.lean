theorem zq_dummy : True := trivial
