theorem zz_probe_1 : True := trivial
