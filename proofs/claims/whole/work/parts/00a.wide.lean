/-! A row of no weight: it names a law of FloatLaws (which part h0 needs) ahead of all others, so that a round reads the parts over the whole library from the first one on. -/
theorem wd_0 : True := (fun _ => trivial) @Jvm.FP.Core.val32_i2f
