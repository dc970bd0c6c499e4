def Rel (S M : ST) : Prop := S.1 0 5 = M.1 0 4
