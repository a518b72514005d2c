-- named here so that the first round is at once the wide one
theorem xw_wide {C : Jvm.Cond} {s t : Jvm.State} : True := by
  have _h := @arrayOver_alikeB
  trivial
