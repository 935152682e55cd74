theorem zz_trial : True := trivial
