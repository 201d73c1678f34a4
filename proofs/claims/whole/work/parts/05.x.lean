theorem hs_zz : True := trivial
