theorem nb_zz : True := trivial
