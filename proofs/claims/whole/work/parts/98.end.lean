theorem qq_end : True := True.intro
