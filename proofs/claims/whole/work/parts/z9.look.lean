theorem look_t : True := trivial
