theorem pm_last_row : True := trivial
