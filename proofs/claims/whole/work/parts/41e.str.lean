/-! texts of the start -/
theorem ne_5 : (((neQ.drop 100).take 20).map (fun q => Jvm.Cond.not (Jvm.Cond.eq (tmS q.1) (tmS q.2)))).isSublist flS = true := by decide +kernel
theorem ne_6 : (((neQ.drop 120).take 20).map (fun q => Jvm.Cond.not (Jvm.Cond.eq (tmS q.1) (tmS q.2)))).isSublist flS = true := by decide +kernel
theorem ne_7 : (((neQ.drop 140).take 20).map (fun q => Jvm.Cond.not (Jvm.Cond.eq (tmS q.1) (tmS q.2)))).isSublist flS = true := by decide +kernel
theorem ne_8 : (((neQ.drop 160).take 20).map (fun q => Jvm.Cond.not (Jvm.Cond.eq (tmS q.1) (tmS q.2)))).isSublist flS = true := by decide +kernel
