theorem am_last : True := trivial
