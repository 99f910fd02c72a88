theorem zz_first : True := trivial
