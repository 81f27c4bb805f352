/-! a name of the library's rest, first: so that a new machine reads the whole library from the first part on -/
theorem zz_wide : True := by
  have h := @FP.Core.val64_inj
  trivial
