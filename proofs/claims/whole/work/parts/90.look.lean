theorem xx_1 : True := trivial
