theorem zz_tiny : True := trivial
