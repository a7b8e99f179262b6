theorem dgPlaceholder2 : True := trivial
