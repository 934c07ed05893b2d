theorem xx : True := trivial
