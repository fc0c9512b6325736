theorem zz_mg : True := trivial
