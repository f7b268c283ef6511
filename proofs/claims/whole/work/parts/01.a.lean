theorem s_first : True := trivial
