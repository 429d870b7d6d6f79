theorem lg_in {X R A B C E Z : va_W} : (X ++ (R ++ (A ++ (B ++ (C ++ (E ++ Z)))))).Perm (X ++ (A ++ (B ++ (C ++ (E ++ (Z ++ R)))))) := by
  refine List.Perm.append_left X ?_
  refine (List.perm_append_comm_assoc _ _ _).trans (List.Perm.append_left A ?_)
  refine (List.perm_append_comm_assoc _ _ _).trans (List.Perm.append_left B ?_)
  refine (List.perm_append_comm_assoc _ _ _).trans (List.Perm.append_left C ?_)
  refine (List.perm_append_comm_assoc _ _ _).trans (List.Perm.append_left E ?_)
  exact List.perm_append_comm

