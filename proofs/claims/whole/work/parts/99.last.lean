theorem t_last : True := trivial
