/-! ===== a name out of the rest of the library: the claim is read over the whole of it ===== -/
theorem qm_wide : True := by
  have _h := @Jvm.Stand.multianewarray2F
  trivial
