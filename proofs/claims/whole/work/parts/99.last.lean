theorem t_99 : True := trivial
