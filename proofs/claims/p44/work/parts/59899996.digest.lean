theorem dgPlaceholder : True := trivial
