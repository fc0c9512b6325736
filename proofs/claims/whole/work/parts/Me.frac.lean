theorem zz_me : True := trivial
