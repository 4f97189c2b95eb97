theorem p31_end : True := trivial
