theorem zz_mf : True := trivial
